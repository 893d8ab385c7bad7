/-! ===== the reference's holdAll, findBetter ===== -/
section MB2
variable {d : Nat} {h : fH} {D W R : Nat} {f : Nat → Int32} {T L : List Int32} {A : bA}
abbrev fHa : fL := ([2, 3, 4, 5, 6, 14, 30, 32], [2, 3, 4, 5, 6, 33], [6, 7, 18, 19], [8, 9, 10, 11])
theorem s_mholdAll (hb : MBs h T) (hT : TxL T) (hS : MSt h D W f) (hA : BmOk h A) :
    OkV (d + 7) mX12_holdAll SM [.ref 1] h (fun k => BmOk k ((allR T).foldl (bsF' D W f) A) ∧ mF fHa h k) := by
  have h13 : T.length ≤ 13 := hT.2.1
  refine NX12_holdAll_0 hM ?_
  rw [hb.1]
  refine seven T (fun B g => BmOk g B ∧ mF fHa h g) (fun s g => G mX12_holdAll (d + 7) SM (f_PV (fun k => BmOk k ((allR T).foldl (bsF' D W f) A) ∧ mF fHa h k)) 7 [(0, .ref 1), (1, .int (nI T.length)), (2, .int (nI s))] [] g) (fun s r g => G mX12_holdAll (d + 7) SM (f_PV (fun k => BmOk k ((allR T).foldl (bsF' D W f) A) ∧ mF fHa h k)) 14 [(0, .ref 1), (1, .int (nI T.length)), (2, .int (nI s)), (3, .int (nI r))] [] g) (bsF' D W f) ((allR T).foldl (bsF' D W f) A) ?_ ?_ ?_ ?_ hT.pos A h ⟨hA, mF.rf⟩ rfl
  · intro g hg
    exact NX12_holdAll_7 ⟨fun _ => hg, fun z => absurd (Int32.le_refl _) z⟩
  · intro s B g hs _ hg
    exact NX12_holdAll_7 ⟨fun z => absurd z (nI_ge (by omega) (by omega)), fun _ => hg⟩
  · intro s g hg
    refine NX12_holdAll_14 hM ⟨fun _ => ?_, fun z => absurd (by decide) z⟩
    rw [nI1]
    exact hg
  · intro s r B g hs hr hI next
    obtain ⟨hB, fg⟩ := hI
    have hc : ¬ (7 : Int32) ≤ nI r := nI_ge (a := r) (b := 7) (by omega) (by omega)
    refine NX12_holdAll_14 hM ⟨fun z => absurd z hc, fun _ => ⟨_, s_layBase h13 (hb.of fg (by decide) (by decide)), ?_⟩⟩
    rintro k1 ⟨N1, f1⟩
    have g1 : mF fHa h k1 := fg.go f1 (by decide)
    have B1 := hB.of f1 (by decide) (by decide) (by decide)
    refine ⟨_, s_build (d := d + 3) N1 hT hs (by omega), ?_⟩
    rintro _ k2 ⟨rfl, hw, f2⟩
    have g2 : mF fHa h k2 := g1.go f2 (by decide)
    have B2 := B1.of f2 (by decide) (by decide) (by decide)
    have em : (s * 7 + r) % 7 = r := by omega
    have ed : (s * 7 + r) / 7 = s := by omega
    rw [nI1]
    refine ⟨fun z => ?_, fun z => ?_⟩
    · have eo : opI T (s * 7 + r) = none := by unfold opI; rw [em, ed, bI_0.mp z]; rfl
      exact next k2 ⟨by rw [eo]; exact B2, g2⟩
    · have z := bI_n0.mp z
      have eo : opI T (s * 7 + r) = some (wrL r (rw' T) T.length s) := by unfold opI; rw [em, ed, if_pos z]
      have hU := opI_ok hT (by omega) eo
      refine ⟨_, s_layBuilt hU.2.1 (hw z), ?_⟩
      rintro k3 ⟨N3, f3⟩
      have g3 : mF fHa h k3 := g2.go f3 (by decide)
      refine ⟨_, s_mhold (d := d) N3 hU (hS.of g3 (by decide) (by decide) (by decide) (by decide)) (B2.of f3 (by decide) (by decide) (by decide)), ?_⟩
      rintro k4 ⟨B4, f4⟩
      exact next k4 ⟨by rw [eo]; exact B4, g3.go f4 (by decide)⟩
/-- the reference's own text -/
def MTx (h : fH) (T : List Int32) : Prop := h.1 1 10 = nI T.length ∧ ∀ i, i < T.length → h.2.2.1 3 i = rw' T i
theorem MTx.of {h k : fH} {L : List Int32} {p : fL} (x : MTx h L) (b : mF p h k) (h1 : p.1.contains 10 = false) (h2 : p.2.2.1.contains 3 = false) : MTx k L :=
  ⟨by rw [b.1 _ (nin_of h1)]; exact x.1, fun i hi => by rw [b.2.2.1 _ (nin_of h2)]; exact x.2 i hi⟩
theorem s_layT (h13 : T.length ≤ 13) (x : MTx h T) : OkV d mX12_layText SM [.ref 1] h (fun k => MNow k (rw' T) T.length ∧ mF ([14], [], [6], []) h k) :=
  OkV.post (s_layText h13 x.1) (fun k q => ⟨⟨q.1.1, fun i hi => by rw [q.1.2 i hi]; exact x.2 i hi⟩, q.2⟩)
abbrev fHb : fL := ([2, 3, 4, 5, 6, 14, 30, 32, 35], [2, 3, 4, 5, 6, 33], [6, 7, 18, 19, 20], [8, 9, 10, 11])
theorem s_mfindBetter (hX : MTx h T) (hT : TxL T) (hS : MSt h D W f) (hR2 : R ≤ 2) :
    OkV (d + 8) mX12_findBetter SM [.ref 1, .int (nI R)] h (fun k => BmOk k (btF D W f R T) ∧ mF fHb h k) := by
  have h13 : T.length ≤ 13 := hT.2.1
  have hp := hT.pos
  refine NX12_findBetter_0 hM ?_
  intro g0 e0
  have f0 : mF fHb h g0 := by rw [e0]; exact mF.rf.fi (by decide)
  have B0 : BmOk g0 none := by rw [e0]; exact u_fi_s _ _ _ _
  clear e0
  refine ⟨_, s_layT h13 (hX.of f0 (by decide) (by decide)), ?_⟩
  rintro g1 ⟨N1, q1⟩
  have f1 : mF fHb h g1 := f0.go q1 (by decide)
  refine ⟨_, s_mhold (d := d + 1) N1 hT (hS.of f1 (by decide) (by decide) (by decide) (by decide)) (B0.of q1 (by decide) (by decide) (by decide)), ?_⟩
  rintro g2 ⟨B2, q2⟩
  have f2 : mF fHb h g2 := f1.go q2 (by decide)
  have more : ∀ g : fH, mF fHb h g → ¬ g.1 1 10 ≤ nI 0 := fun g fg => by
    rw [(hX.of fg (by decide) (by decide)).1]; exact nI_ge (by omega) (by omega)
  refine ⟨fun z => ?_, fun z => ?_⟩
  · have r0 : R = 0 := by
      rcases (by omega : R = 0 ∨ R = 1 ∨ R = 2) with rfl | rfl | rfl
      · rfl
      · exact absurd z (by decide)
      · exact absurd z (by decide)
    subst r0
    exact NX12_findBetter_31 hM ⟨fun w => absurd w (more g2 f2), fun _ => ⟨fun _ => ⟨B2, f2⟩, fun w => absurd (by decide) w⟩⟩
  · refine ⟨_, s_layT h13 (hX.of f2 (by decide) (by decide)), ?_⟩
    rintro g3 ⟨N3, q3⟩
    have f3 : mF fHb h g3 := f2.go q3 (by decide)
    have B3 := B2.of q3 (by decide) (by decide) (by decide)
    refine ⟨_, s_keepBase h13 N3, ?_⟩
    rintro g4 ⟨K4, q4⟩
    have f4 : mF fHb h g4 := f3.go q4 (by decide)
    have B4 := B3.of q4 (by decide) (by decide) (by decide)
    refine ⟨_, s_mholdAll (d := d) K4 hT (hS.of f4 (by decide) (by decide) (by decide) (by decide)) B4, ?_⟩
    rintro g5 ⟨B5, q5⟩
    have f5 : mF fHb h g5 := f4.go q5 (by decide)
    rcases (by omega : R = 0 ∨ R = 1 ∨ R = 2) with rfl | rfl | rfl
    · exact absurd (by decide) z
    · exact NX12_findBetter_31 hM ⟨fun w => absurd w (more g5 f5), fun _ => ⟨fun _ => ⟨B5, f5⟩, fun w => absurd (by decide) w⟩⟩
    · rw [show (0 : Int32) = nI 0 from rfl]
      refine seven T (fun B g => BmOk g B ∧ mF fHb h g) (fun s g => G mX12_findBetter (d + 8) SM (f_PV (fun k => BmOk k (btF D W f 2 T) ∧ mF fHb h k)) 31 [(0, .ref 1), (1, .int (nI 2)), (2, .int (nI s))] [] g) (fun s r g => G mX12_findBetter (d + 8) SM (f_PV (fun k => BmOk k (btF D W f 2 T) ∧ mF fHb h k)) 46 [(0, .ref 1), (1, .int (nI 2)), (2, .int (nI s)), (3, .int (nI r))] [] g) (dpF D W f 2) (btF D W f 2 T) ?_ ?_ ?_ ?_ hp _ g5 ⟨B5, f5⟩ dp_2
      · intro g hg
        refine NX12_findBetter_31 hM ⟨fun _ => hg, fun z => absurd ?_ z⟩
        rw [(hX.of hg.2 (by decide) (by decide)).1]
        exact Int32.le_refl _
      · intro s B g hs hI hg
        refine NX12_findBetter_31 hM ⟨fun z => absurd z ?_, fun _ => ⟨fun z => absurd z (by decide), fun _ => hg⟩⟩
        rw [(hX.of hI.2 (by decide) (by decide)).1]
        exact nI_ge (by omega) (by omega)
      · intro s g hg
        refine NX12_findBetter_46 hM ⟨fun _ => ?_, fun z => absurd (by decide) z⟩
        rw [nI1]
        exact hg
      · intro s r B g hs hr hI next
        obtain ⟨hB, fg⟩ := hI
        have hc : ¬ (7 : Int32) ≤ nI r := nI_ge (a := r) (b := 7) (by omega) (by omega)
        refine NX12_findBetter_46 hM ⟨fun z => absurd z hc, fun _ => ⟨_, s_layT h13 (hX.of fg (by decide) (by decide)), ?_⟩⟩
        rintro k1 ⟨N1, p1⟩
        have b1 : mF fHb h k1 := fg.go p1 (by decide)
        have C1 := hB.of p1 (by decide) (by decide) (by decide)
        refine ⟨_, s_build (d := d + 4) N1 hT hs (by omega), ?_⟩
        rintro _ k2 ⟨rfl, hw, p2⟩
        have b2 : mF fHb h k2 := b1.go p2 (by decide)
        have C2 := C1.of p2 (by decide) (by decide) (by decide)
        have em : (s * 7 + r) % 7 = r := by omega
        have ed : (s * 7 + r) / 7 = s := by omega
        rw [nI1]
        refine ⟨fun z => ?_, fun z => ?_⟩
        · have eo : opI T (s * 7 + r) = none := by unfold opI; rw [em, ed, bI_0.mp z]; rfl
          exact next k2 ⟨by rw [eo]; exact C2, b2⟩
        · have z := bI_n0.mp z
          have eo : opI T (s * 7 + r) = some (wrL r (rw' T) T.length s) := by unfold opI; rw [em, ed, if_pos z]
          have hU := opI_ok hT (by omega) eo
          refine ⟨_, s_layBuilt hU.2.1 (hw z), ?_⟩
          rintro k3 ⟨N3, p3⟩
          have b3 : mF fHb h k3 := b2.go p3 (by decide)
          have C3 := C2.of p3 (by decide) (by decide) (by decide)
          refine ⟨_, s_keepBase hU.2.1 N3, ?_⟩
          rintro k4 ⟨K4, p4⟩
          have b4 : mF fHb h k4 := b3.go p4 (by decide)
          have C4 := C3.of p4 (by decide) (by decide) (by decide)
          refine ⟨_, s_mholdAll (d := d) K4 hU (hS.of b4 (by decide) (by decide) (by decide) (by decide)) C4, ?_⟩
          rintro k5 ⟨C5, p5⟩
          exact next k5 ⟨by rw [eo]; exact C5, b4.go p5 (by decide)⟩
end MB2

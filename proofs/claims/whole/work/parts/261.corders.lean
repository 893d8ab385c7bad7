/-! ===== the class's Orders ===== -/
def OaOk (h : fH) (co lo fk n k : Nat) (A : oA) : Prop := h.2.2.1 co k = nI A.1 ∧ (¬ A.1 = 0 → h.2.2.2 lo k = A.2.1 ∧ ∀ j, j < n → h.2.2.1 fk j = nI (A.2.2.getD j 0))
theorem OaOk.off {h k1 : fH} {co lo fk n k : Nat} {A : oA} {L : List Nat} (a : OaOk h co lo fk n k A) (o : fOff L h k1) (h1 : co ∉ L) (h2 : lo ∉ L) (h3 : fk ∉ L) : OaOk k1 co lo fk n k A :=
  ⟨by rw [(o co h1).2.2.1]; exact a.1, fun z => ⟨by rw [(o lo h2).2.2.2]; exact (a.2 z).1, fun j hj => by rw [(o fk h3).2.2.1]; exact (a.2 z).2 j hj⟩⟩
def OrS (S : fW) (ob su path lo co fi f0 f1 : Nat) (gf : Nat → Nat) : Prop := ((ob, shX1 su path lo co fi) ∈ S ∧ (path, shI 7) ∈ S ∧ (lo, shJ 2) ∈ S ∧ (co, shI 2) ∈ S ∧ (fi, shII 2 gf) ∈ S) ∧ ((f0, shI 7) ∈ S ∧ (f1, shI 7) ∈ S) ∧ gf 0 = f0 ∧ gf 1 = f1
theorem nd_inj {l : List Nat} (nd : l.Nodup) {i j a : Nat} (hi : l[i]? = some a) (hj : l[j]? = some a) : i = j :=
  (List.getElem?_inj (List.getElem?_eq_some_iff.mp hi).1 nd).mp (hi.trans hj.symm)
/-- two places of a list without like ones -/
theorem nd_ne {l : List Nat} (nd : l.Nodup) (i j : Nat) {a b : Nat} (hi : l[i]? = some a) (hj : l[j]? = some b) (hij : i ≠ j) : a ≠ b := by
  rintro rfl
  exact hij (nd_inj nd hi hj)
/-- a place of it lies outside other places -/
theorem nd_out {l m : List Nat} (nd : l.Nodup) (i : Nat) (js : List Nat) {a : Nat} (hi : l[i]? = some a) (hm : js.map (fun j => l[j]?) = m.map some) (hne : i ∉ js) : a ∉ m := by
  intro ha
  have h1 : some a ∈ m.map some := List.mem_map.mpr ⟨a, ha, rfl⟩
  rw [← hm] at h1
  obtain ⟨j, hj, e⟩ := List.mem_map.mp h1
  exact hne (nd_inj nd hi e ▸ hj)
section CORD
variable {d : Nat} {S : fW} {h : fH} {ob su ra ro te si path lo co fi f0 f1 D W n : Nat} {gf : Nat → Nat} {T : Nat → Int64}
theorem s_isPreferred {most : Nat} {l than : Int64} (hm : most ≤ 1) : OkI (d + 1) mX1_isPreferred S [.int (nI most), .long l, .long than] h (fun v k => v = bI (prB most l than) ∧ k = h) := by
  have e0 : (nI most = (0 : Int32)) ↔ most = 0 := nI_eq (b := 0) (by omega) (by decide)
  refine NX1_isPreferred_0 ?_
  rw [absL_m, absL_m, e0]
  unfold prB
  refine ⟨fun y => ⟨fun z => ⟨fun q => ⟨?_, rfl⟩, fun q => ⟨?_, rfl⟩⟩, fun z => ⟨fun q => ⟨?_, rfl⟩, fun q => ⟨?_, rfl⟩⟩⟩, fun y => ⟨fun q => ⟨?_, rfl⟩, fun q => ⟨?_, rfl⟩⟩⟩
  · rw [if_neg y, if_neg z, decide_eq_false (Int64.not_lt.mpr q)]; rfl
  · rw [if_neg y, if_neg z, decide_eq_true (Int64.not_le.mp q)]; rfl
  · rw [if_neg y, if_pos z, decide_eq_false (Int64.not_lt.mpr q)]; rfl
  · rw [if_neg y, if_pos z, decide_eq_true (Int64.not_le.mp q)]; rfl
  · rw [if_pos y, decide_eq_false (Int64.not_lt.mpr q)]; rfl
  · rw [if_pos y, decide_eq_true (Int64.not_le.mp q)]; rfl
theorem s_noteG {k k' fk fk' : Nat} {A A' : oA} {l : Int64} {p : List Nat} (O : OrS S ob su path lo co fi f0 f1 gf) (hk : k ≤ 1) (hkk : k ≠ k') (hg : gf k = fk) (hfk : (fk, shI 7) ∈ S) (n1 : fk ≠ co) (n2 : fk' ≠ co) (n3 : fk ≠ fk') (n4 : path ≠ co) (h7 : n ≤ 7)
    (hp : ∀ j, j < n → h.2.2.1 path j = nI (p.getD j 0)) (a : OaOk h co lo fk n k A) (a' : OaOk h co lo fk' n k' A') (hA : A.1 < 2 ^ 30) :
    OkV (d + 2) mX1_note S [.ref ob, .int (nI k), .long l] h (fun k1 => (OaOk k1 co lo fk n k (otF k A l p) ∧ OaOk k1 co lo fk' n k' A') ∧ fOff [co, lo, fk] h k1) := by
  obtain ⟨⟨x1, x2, x3, x4, x5⟩, _⟩ := O
  have hc : (nI k).toNatClampNeg = k := nI_clamp (by omega)
  have c0 : (nI A.1 = (0 : Int32)) ↔ A.1 = 0 := nI_eq (b := 0) (by omega) (by decide)
  have c1 : (nI A.1 ≤ (0 : Int32)) ↔ A.1 = 0 := by rw [show (0 : Int32) = nI 0 from rfl, nI_leI (by omega) (by decide)]; omega
  have hin : vp_in (nI k) 2 := vp_in_nI (by omega) (by decide)
  -- a new best one
  have new : ∀ k3 : fH, k3 = u_ai (u_al (u_ai h co (upd (h.2.2.1 co) k 1)) lo (vp_updL ((u_ai h co (upd (h.2.2.1 co) k 1)).2.2.2 lo) k l)) fk (va_cpy ((u_al (u_ai h co (upd (h.2.2.1 co) k 1)) lo (vp_updL ((u_ai h co (upd (h.2.2.1 co) k 1)).2.2.2 lo) k l)).2.2.1 path) ((u_al (u_ai h co (upd (h.2.2.1 co) k 1)) lo (vp_updL ((u_ai h co (upd (h.2.2.1 co) k 1)).2.2.2 lo) k l)).2.2.1 fk) 0 0 7) → otF k A l p = (1, l, p) → (OaOk k3 co lo fk n k (otF k A l p) ∧ OaOk k3 co lo fk' n k' A') ∧ fOff [co, lo, fk] h k3 := by
    rintro k3 rfl e
    rw [e]
    refine ⟨⟨⟨?_, fun _ => ⟨?_, fun j hj => ?_⟩⟩, ⟨?_, fun z => ⟨?_, fun j hj => ?_⟩⟩⟩, ?_⟩
    · rw [u_ai_n _ _ (Ne.symm n1), u_al_3, u_ai_s, upd_s]; rfl
    · show (u_al (u_ai h co (upd (h.2.2.1 co) k 1)) lo _).2.2.2 lo k = l
      rw [u_al_s, pk_uLs]
    · rw [u_ai_s, sb_cpy0 (by omega), u_al_3, u_ai_n _ _ n4]; exact hp j hj
    · rw [u_ai_n _ _ (Ne.symm n1), u_al_3, u_ai_s, upd_n _ _ (Ne.symm hkk)]; exact a'.1
    · show (u_al (u_ai h co (upd (h.2.2.1 co) k 1)) lo _).2.2.2 lo k' = _
      rw [u_al_s, pk_uLn (Ne.symm hkk)]; exact (a'.2 z).1
    · rw [u_ai_n _ _ (Ne.symm n3), u_al_3, u_ai_n _ _ n2]; exact (a'.2 z).2 j hj
    · exact ((fOff.rf.of (f_off_ai _ _ _) (by simp)).of (f_off_al _ _ _) (by simp)).of (f_off_ai _ _ _) (by simp)
  have far : ¬ (¬ A.1 = 0 ∧ l = A.2.1) → G mX1_note (d + 2) S (f_PV (fun k1 => (OaOk k1 co lo fk n k (otF k A l p) ∧ OaOk k1 co lo fk' n k' A') ∧ fOff [co, lo, fk] h k1)) 33 [(0, .ref ob), (1, .int (nI k)), (2, .long l)] [] h := by
    intro y
    refine NX1_note_33 x1 x4 x3 x5 x2 (by rw [hc, hg]; exact hfk) ⟨hin, ?_⟩
    rw [hc, hg, a.1, c0]
    refine ⟨fun z => ?_, fun z => ?_⟩
    · rintro g1 rfl g2 rfl g3 hg3
      exact new g3 hg3 (by unfold otF; rw [if_neg y, if_pos (Or.inl z)])
    · rw [(a.2 z).1]
      refine ⟨_, s_isPreferred hk, ?_⟩
      rintro _ h ⟨rfl, rfl⟩
      refine ⟨fun q => ?_, fun q => ?_⟩
      · have q := bI_0.mp q
        have e : otF k A l p = A := by unfold otF; rw [if_neg y, if_neg (by simp [z, q])]
        rw [e]
        exact ⟨⟨a, a'⟩, fOff.rf⟩
      · have q := bI_n0.mp q
        rintro g1 rfl g2 rfl g3 hg3
        exact new g3 hg3 (by unfold otF; rw [if_neg y, if_pos (Or.inr q)])
  refine NX1_note_0 x1 x4 x3 ⟨hin, ?_⟩
  rw [hc, a.1, c1]
  refine ⟨fun z => far (fun q => q.1 z), fun z => ?_⟩
  rw [(a.2 z).1]
  refine ⟨fun y => far (fun q => y q.2), fun y => ?_⟩
  rintro g1 rfl
  have e : otF k A l p = (A.1 + 1, A.2.1, A.2.2) := by unfold otF; rw [if_pos ⟨z, y⟩]
  rw [e]
  refine ⟨⟨⟨?_, fun _ => ⟨(a.2 z).1, fun j hj => ?_⟩⟩, ⟨?_, fun z' => ⟨(a'.2 z').1, fun j hj => ?_⟩⟩⟩, fOff.rf.of (f_off_ai _ _ _) (by simp)⟩
  · rw [u_ai_s, upd_s, nI1]
  · rw [u_ai_n _ _ n1]; exact (a.2 z).2 j hj
  · rw [u_ai_s, upd_n _ _ (Ne.symm hkk)]; exact a'.1
  · rw [u_ai_n _ _ n2]; exact (a'.2 z').2 j hj
/-- what holds while orders are sought -/
def OxOk (h : fH) (ob su ro te path co lo f0 f1 D W : Nat) (T : Nat → Int64) (n : Nat) (p : List Nat) (A0 A1 : oA) : Prop :=
  SuOk h su ro te D W T n ∧ h.2.1 ob 5 = whF T n ∧ (∀ j, j < p.length → h.2.2.1 path j = nI (p.getD j 0)) ∧ OaOk h co lo f0 n 0 A0 ∧ OaOk h co lo f1 n 1 A1
theorem s_extend (X : SuS S su ra ro te si) (O : OrS S ob su path lo co fi f0 f1 gf) (nd : [ob, su, ra, ro, te, si, path, lo, co, f0, f1].Nodup) (hn : 1 ≤ n) :
    ∀ (m : Nat) (p : List Nat) (used : Int32) (av : Int64) (A0 A1 : oA) (h : fH), p.length + m = n → (∀ x ∈ p, x < n) → (∀ i, i < 7 → bt used i = decide (i ∈ p)) → (p ≠ [] → av = smL D W T p ∧ dcm av) → A0.1 + (exL n m p).length < 2 ^ 30 → A1.1 + (exL n m p).length < 2 ^ 30 → OxOk h ob su ro te path co lo f0 f1 D W T n p A0 A1 →
      OkV (d + m + 3) mX1_extend S [.ref ob, .int (nI p.length), .int used, .long av] h (fun k => OxOk k ob su ro te path co lo f0 f1 D W T n p ((exL n m p).foldl (osF D W T (whF T n) 0) A0) ((exL n m p).foldl (osF D W T (whF T n) 1) A1) ∧ fOff [path, lo, co, f0, f1, ra] h k) := by
  obtain ⟨⟨x1, x2, x3, x4, x5⟩, ⟨y0, y1⟩, g0, g1⟩ := id O
  have n10 : su ∉ [path, lo, co, f0, f1, ra] := nd_out nd 1 [6, 7, 8, 9, 10, 2] rfl rfl (by decide)
  have n11 : ro ∉ [path, lo, co, f0, f1, ra] := nd_out nd 3 [6, 7, 8, 9, 10, 2] rfl rfl (by decide)
  have n12 : te ∉ [path, lo, co, f0, f1, ra] := nd_out nd 4 [6, 7, 8, 9, 10, 2] rfl rfl (by decide)
  have n13 : ob ∉ [path, lo, co, f0, f1, ra] := nd_out nd 0 [6, 7, 8, 9, 10, 2] rfl rfl (by decide)
  intro m
  induction m with
  | zero =>
    intro p used av A0 A1 h hpl hpx hus hav hb0 hb1 hx
    obtain ⟨xs, xw, xp, xa0, xa1⟩ := hx
    have hpn : p ≠ [] := by intro e; rw [e] at hpl; simp at hpl; omega
    obtain ⟨hsum, hdc⟩ := hav hpn
    have h7 := xs.2.1.2.1
    have hl : p.length = n := by omega
    simp only [exL, List.foldl_cons, List.foldl_nil, List.length_singleton] at hb0 hb1 ⊢
    have ng : ¬ smL D W T p = 1000000000000000000 := by rw [← hsum]; exact dcm_ng hdc
    have e0 : osF D W T (whF T n) 0 A0 p = otF 0 A0 (av - whF T n) p := by unfold osF; rw [if_neg ng, hsum]
    have e1 : osF D W T (whF T n) 1 A1 p = otF 1 A1 (av - whF T n) p := by unfold osF; rw [if_neg ng, hsum]
    rw [e0, e1]
    refine NX1_extend_0 x1 X.1.1 ⟨fun _ => ?_, fun z => absurd (by rw [xs.2.1.1, hl]; exact Int32.le_refl _) z⟩
    rw [xw]
    refine ⟨_, s_noteG (d := d) (k := 0) (k' := 1) (fk' := f1) O (by decide) (by decide) g0 y0 (nd_ne nd 9 8 rfl rfl (by decide)) (nd_ne nd 10 8 rfl rfl (by decide)) (nd_ne nd 9 10 rfl rfl (by decide)) (nd_ne nd 6 8 rfl rfl (by decide)) h7 (fun j hj => xp j (by omega)) xa0 xa1 (by omega), ?_⟩
    rintro k1 ⟨⟨ya0, ya1⟩, o1⟩
    rw [(o1 ob (nd_out nd 0 [8, 7, 9] rfl rfl (by decide))).2.1, xw]
    refine ⟨_, s_noteG (d := d) (k := 1) (k' := 0) (fk' := f0) O (by decide) (by decide) g1 y1 (nd_ne nd 10 8 rfl rfl (by decide)) (nd_ne nd 9 8 rfl rfl (by decide)) (nd_ne nd 10 9 rfl rfl (by decide)) (nd_ne nd 6 8 rfl rfl (by decide)) h7 (fun j hj => by rw [(o1 path (nd_out nd 6 [8, 7, 9] rfl rfl (by decide))).2.2.1]; exact xp j (by omega)) ya1 ya0 (by omega), ?_⟩
    rintro k2 ⟨⟨za1, za0⟩, o2⟩
    have oo : fOff [path, lo, co, f0, f1, ra] h k2 := (o1.mono (by simp)).tr (o2.mono (by simp))
    have oq : fOff [lo, co, f0, f1] h k2 := (o1.mono (by simp)).tr (o2.mono (by simp))
    exact ⟨⟨xs.off oo n10 n11 n12, by rw [(oo ob n13).2.1]; exact xw, fun j hj => by rw [(oq path (nd_out nd 6 [7, 8, 9, 10] rfl rfl (by decide))).2.2.1]; exact xp j hj, za0, za1⟩, oo⟩
  | succ m ih =>
    intro p used av A0 A1 h hpl hpx hus hav hb0 hb1 hx
    have h7 := hx.1.2.1.2.1
    have hT := hx.1.2.2.1
    obtain ⟨hD1, hD4, hW3⟩ := hx.1.2.2.2
    -- the loop
    have key : ∀ (k i : Nat) (B0 B1 : oA) (g : fH), k + i = n → OxOk g ob su ro te path co lo f0 f1 D W T n p B0 B1 → fOff [path, lo, co, f0, f1, ra] h g → B0.1 + ((List.range' i k).flatMap (fun i => if p.contains i then [] else exL n m (p ++ [i]))).length < 2 ^ 30 → B1.1 + ((List.range' i k).flatMap (fun i => if p.contains i then [] else exL n m (p ++ [i]))).length < 2 ^ 30 →
        ((List.range' i k).flatMap (fun i => if p.contains i then [] else exL n m (p ++ [i]))).foldl (osF D W T (whF T n) 0) B0 = (exL n (m + 1) p).foldl (osF D W T (whF T n) 0) A0 → ((List.range' i k).flatMap (fun i => if p.contains i then [] else exL n m (p ++ [i]))).foldl (osF D W T (whF T n) 1) B1 = (exL n (m + 1) p).foldl (osF D W T (whF T n) 1) A1 →
        G mX1_extend (d + (m + 1) + 3) S (f_PV (fun k => OxOk k ob su ro te path co lo f0 f1 D W T n p ((exL n (m + 1) p).foldl (osF D W T (whF T n) 0) A0) ((exL n (m + 1) p).foldl (osF D W T (whF T n) 1) A1) ∧ fOff [path, lo, co, f0, f1, ra] h k)) 43 [(0, .ref ob), (1, .int (nI p.length)), (2, .int used), (3, .long av), (5, .int (nI i))] [] g := by
      intro k
      induction k with
      | zero =>
        intro i B0 B1 g hi gx go c0 c1 e0 e1
        have e : i = n := by omega
        subst e
        simp only [List.range'_zero, List.flatMap_nil, List.foldl_nil] at e0 e1
        rw [e0, e1] at gx
        exact NX1_extend_43 x1 X.1.1 X.1.2.2.2.1 ⟨fun _ => ⟨gx, go⟩, fun z => absurd (by rw [gx.1.2.1.1]; exact Int32.le_refl _) z⟩
      | succ k ihk =>
        intro i B0 B1 g hi gx go c0 c1 e0 e1
        rw [List.range'_succ, List.flatMap_cons, List.foldl_append] at e0 e1
        rw [List.range'_succ, List.flatMap_cons, List.length_append] at c0 c1
        have gs := gx.1
        refine NX1_extend_43 x1 X.1.1 X.1.2.2.2.1 ⟨fun z => absurd z (by rw [gs.2.1.1]; exact nI_ge (by omega) (by omega)), fun _ => ?_⟩
        rw [b_test (by omega), hus i (by omega), nI_clamp (by omega), gs.2.1.2.2 i (by omega), nI1]
        by_cases hip : i ∈ p
        · have hcn : p.contains i = true := List.contains_iff_mem.mpr hip
          rw [if_pos hcn] at e0 e1 c0 c1
          refine ⟨fun _ => ?_, fun z => absurd z (by simp [hip])⟩
          exact ihk (i + 1) B0 B1 g (by omega) gx go (by simpa using c0) (by simpa using c1) e0 e1
        · have hcn : ¬ p.contains i = true := fun q => hip (List.contains_iff_mem.mp q)
          rw [if_neg hcn] at e0 e1 c0 c1
          refine ⟨fun z => absurd (by simp [hip]) z, fun _ => ?_⟩
          -- behind the sum
          have nx : ∀ (g' : fH) (sv : Int64), sv = smL D W T (p ++ [i]) → dcmG sv → OxOk g' ob su ro te path co lo f0 f1 D W T n p B0 B1 → fOff [path, lo, co, f0, f1, ra] h g' → G mX1_extend (d + (m + 1) + 3) S (f_PV (fun k => OxOk k ob su ro te path co lo f0 f1 D W T n p ((exL n (m + 1) p).foldl (osF D W T (whF T n) 0) A0) ((exL n (m + 1) p).foldl (osF D W T (whF T n) 1) A1) ∧ fOff [path, lo, co, f0, f1, ra] h k)) 99 [(0, .ref ob), (1, .int (nI p.length)), (2, .int used), (3, .long av), (5, .int (nI i))] [.long sv] g' := by
            intro g' sv hsv hdv gx' go'
            refine NX1_extend_99 x1 x2 ⟨fun z => ?_, fun z => ⟨vp_in_nI (by omega) (by decide), ?_⟩⟩
            · rw [nI1]
              have zz : smL D W T (p ++ [i]) = 1000000000000000000 := by rw [← hsv]; exact z
              rw [ex_great m (p ++ [i]) B0 (by simp) zz] at e0
              rw [ex_great m (p ++ [i]) B1 (by simp) zz] at e1
              exact ihk (i + 1) B0 B1 g' (by omega) gx' go' (by omega) (by omega) e0 e1
            · rintro g2 rfl
              rw [nI1, nI1, nI_clamp (by omega)]
              have hoff1 : fOff [path] g' (u_ai g' path (upd (g'.2.2.1 path) p.length (nI i))) := fOff.rf.of (f_off_ai _ _ _) (by simp)
              obtain ⟨q1, q2, q3, q4, q5⟩ := gx'
              have gx2 : OxOk (u_ai g' path (upd (g'.2.2.1 path) p.length (nI i))) ob su ro te path co lo f0 f1 D W T n (p ++ [i]) B0 B1 := by
                refine ⟨q1.off hoff1 (nd_out nd 1 [6] rfl rfl (by decide)) (nd_out nd 3 [6] rfl rfl (by decide)) (nd_out nd 4 [6] rfl rfl (by decide)), q2, fun j hj => ?_, q4.off hoff1 (nd_out nd 8 [6] rfl rfl (by decide)) (nd_out nd 7 [6] rfl rfl (by decide)) (nd_out nd 9 [6] rfl rfl (by decide)), q5.off hoff1 (nd_out nd 8 [6] rfl rfl (by decide)) (nd_out nd 7 [6] rfl rfl (by decide)) (nd_out nd 10 [6] rfl rfl (by decide))⟩
                rw [u_ai_s]
                simp at hj
                by_cases e : j = p.length
                · subst e
                  rw [upd_s]
                  simp
                · rw [upd_n _ _ e, q3 j (by omega)]
                  congr 1
                  simp [List.getElem?_append, show j < p.length by omega]
              have hlen : (p ++ [i]).length = p.length + 1 := by simp
              have hcall := ih (p ++ [i]) (used ||| ((1 : Int32) <<< (nI i &&& 31))) sv B0 B1 _ (by simp; omega) (fun x hx => by
                rcases List.mem_append.mp hx with w | w
                · exact hpx x w
                · rw [List.mem_singleton] at w; omega) (fun j hj => by
                rw [b_set (by omega) (by omega), hus j hj]
                simp) (fun _ => ⟨hsv, hdv.resolve_left z⟩) (by omega) (by omega) gx2
              rw [hlen] at hcall
              refine ⟨_, hcall, ?_⟩
              rintro g3 ⟨r1, r2⟩
              have c0' := osF_fold_le D W T (whF T n) 0 (exL n m (p ++ [i])) B0
              have c1' := osF_fold_le D W T (whF T n) 1 (exL n m (p ++ [i])) B1
              refine ihk (i + 1) _ _ g3 (by omega) ⟨r1.1, r1.2.1, fun j hj => ?_, r1.2.2.2⟩ (go'.tr ((hoff1.mono (by simp)).tr r2)) (by omega) (by omega) e0 e1
              rw [r1.2.2.1 j (by simp; omega)]
              congr 1
              simp [List.getElem?_append, hj]
          refine ⟨fun z => ⟨vp_in_nI (by omega) (by decide), ?_⟩, fun z => ⟨vp_in_nI (by omega) (by decide), ?_⟩⟩
          · have hpn : p ≠ [] := by intro q; apply z; rw [q]; rfl
            obtain ⟨hs1, hs2⟩ := hav hpn
            refine ⟨_, s_plus (d := d + m + 1) X gs (Or.inr hs2) (Or.inr (hT i (by omega))), ?_⟩
            rintro _ g4 ⟨rfl, o4⟩
            obtain ⟨q1, q2, q3, q4, q5⟩ := gx
            refine nx g4 _ (by rw [smL_snoc hpn, hs1]) (plF'_dcm hD1 hD4 (Or.inr hs2) (Or.inr (hT i (by omega)))) ?_ (go.tr (o4.mono (by simp)))
            exact ⟨q1.toR X o4, by rw [(o4 ob (nd_out nd 0 [2] rfl rfl (by decide))).2.1]; exact q2, fun j hj => by rw [(o4 path (nd_out nd 6 [2] rfl rfl (by decide))).2.2.1]; exact q3 j hj, q4.off o4 (nd_out nd 8 [2] rfl rfl (by decide)) (nd_out nd 7 [2] rfl rfl (by decide)) (nd_out nd 9 [2] rfl rfl (by decide)), q5.off o4 (nd_out nd 8 [2] rfl rfl (by decide)) (nd_out nd 7 [2] rfl rfl (by decide)) (nd_out nd 10 [2] rfl rfl (by decide))⟩
          · have hp0 : p = [] := by
              have := (nI_eq (b := 0) (by omega) (by decide)).mp z
              exact List.length_eq_zero_iff.mp this
            refine nx g _ ?_ (Or.inr (hT i (by omega))) gx go
            rw [hp0]
            exact (smL_one i).symm
    refine NX1_extend_0 x1 X.1.1 ⟨fun z => absurd z (by rw [hx.1.2.1.1]; exact nI_ge (by omega) (by omega)), fun _ => ⟨fun _ => ?_, fun z => absurd (nI_lt (b := 7) (by omega) (by decide)) z⟩⟩
    exact key n 0 A0 A1 h (by omega) hx fOff.rf hb0 hb1 rfl rfl
end CORD

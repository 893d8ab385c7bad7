/-! ===== the class's Sums ===== -/
def SuS (S : fW) (su ra ro te si : Nat) : Prop := ((su, shX9 ra ro te si) ∈ S ∧ (ra, shX3) ∈ S ∧ (ro, shX4) ∈ S ∧ (te, shJ 7) ∈ S ∧ (si, shI 7) ∈ S) ∧ [su, ra, ro, te, si].Nodup
/-- a Sums holds n terms, its rounding is turned -/
def SuOk (h : fH) (su ro te D W : Nat) (T : Nat → Int64) (n : Nat) : Prop :=
  (h.1 ro 0 = nI D ∧ h.1 ro 1 = nI W ∧ h.1 ro 2 = bI false) ∧ (h.1 su 4 = nI n ∧ n ≤ 7 ∧ (∀ j, j < n → h.2.2.2 te j = T j)) ∧ (∀ j, j < n → dcm (T j)) ∧ 1 ≤ D ∧ D ≤ 4 ∧ W ≤ 3
theorem SuOk.off {h k : fH} {su ro te D W : Nat} {T : Nat → Int64} {n : Nat} {L : List Nat} (x : SuOk h su ro te D W T n) (o : fOff L h k) (h1 : su ∉ L) (h2 : ro ∉ L) (h3 : te ∉ L) : SuOk k su ro te D W T n := by
  obtain ⟨⟨a1, a2, a3⟩, ⟨b1, b2, b3⟩, c1⟩ := x
  exact ⟨⟨by rw [(o ro h2).1]; exact a1, by rw [(o ro h2).1]; exact a2, by rw [(o ro h2).1]; exact a3⟩, ⟨by rw [(o su h1).1]; exact b1, b2, fun j hj => by rw [(o te h3).2.2.2]; exact b3 j hj⟩, c1⟩
section CSUMS
variable {d : Nat} {S : fW} {h : fH} {su ra ro te si D W n : Nat} {T : Nat → Int64}
theorem SuOk.toR {k : fH} (X : SuS S su ra ro te si) (x : SuOk h su ro te D W T n) (o : fOff [ra] h k) : SuOk k su ro te D W T n := by
  obtain ⟨_, nd⟩ := X
  simp only [List.nodup_cons, List.mem_cons, List.not_mem_nil, or_false, not_or] at nd
  exact x.off o (by simp; omega) (by simp; omega) (by simp; omega)
theorem SuOk.rs {k : fH} (X : SuS S su ra ro te si) (x : SuOk h su ro te D W T n) (o : fOff [ra, si] h k) : SuOk k su ro te D W T n := by
  obtain ⟨_, nd⟩ := X
  simp only [List.nodup_cons, List.mem_cons, List.not_mem_nil, or_false, not_or] at nd
  exact x.off o (by simp; omega) (by simp; omega) (by simp; omega)
theorem s_plus {a b : Int64} (X : SuS S su ra ro te si) (x : SuOk h su ro te D W T n) (ha : dcmG a) (hb : dcmG b) : OkL (d + 2) mX9_plus S [.ref su, .long a, .long b] h (fun y k => y = plF' D W a b ∧ fOff [ra] h k) := by
  obtain ⟨⟨x1, x2, x3, x4, x5⟩, nd⟩ := id X
  obtain ⟨⟨a1, a2, a3⟩, _, _, hD1, hD4, hW3⟩ := id x
  simp only [List.nodup_cons, List.mem_cons, List.not_mem_nil, or_false, not_or] at nd
  have nro : ro ≠ ra := by omega
  refine NX9_plus_0 x1 x2 x3 ⟨fun z => ⟨?_, fOff.rf⟩, fun z => ⟨fun y => ?_, fun y => ⟨?_, fOff.rf⟩⟩⟩
  · unfold plF' madeF; rw [if_pos (Or.inl z)]
  · have da := ha.resolve_left z
    have db := hb.resolve_left y
    have ea : (a + b).toInt = a.toInt + b.toInt := by
      have e : a + b = Int64.ofInt (a.toInt + b.toInt) := by rw [Int64.ofInt_add, Int64.ofInt_toInt, Int64.ofInt_toInt]
      have := da.1
      have := db.1
      rw [e, lO_toInt (by omega) (by omega)]
    refine ⟨_, s_hold x2, ?_⟩
    rintro _ rfl
    refine ⟨_, s_of (D := D) (W := W) (tiny := false) (d0 := 1) (t := 0) x3 x2 ?_ hD1 hD4 ?_ hW3 ?_ ?_ (by decide) (by decide) ?_ ?_ (by decide) (by decide), ?_⟩
    · rw [holdH_1 _ _ _ _ nro]; exact a1
    · rw [holdH_1 _ _ _ _ nro]; exact a2
    · rw [holdH_1 _ _ _ _ nro]; exact a3
    · rw [holdH_u, ea]
      have := da.1
      have := db.1
      omega
    · rw [holdH_l]; rfl
    · rw [holdH_t]; rfl
    rintro _ _ ⟨rfl, rfl⟩
    refine ⟨?_, fOff.rf.hold (by simp)⟩
    rw [holdH_u, ea]
    unfold plF' madeF
    rw [if_neg (by simp [z, y]), if_neg (by simp)]
    rfl
  · unfold plF' madeF; rw [if_pos (Or.inr y)]
theorem s_cless {a b : Int64} (X : SuS S su ra ro te si) (x : SuOk h su ro te D W T n) (ha : dcmG a) (hb : dcmG b) : OkL (d + 3) mX9_less S [.ref su, .long a, .long b] h (fun y k => y = miF' D W a b ∧ fOff [ra] h k) := by
  refine NX9_less_0 X.1.1 ⟨fun y => ?_, fun y => ⟨?_, fOff.rf⟩⟩
  · have db := hb.resolve_left y
    refine ⟨_, s_plus (d := d) X x ha (Or.inr (dcm_neg db)), ?_⟩
    rintro _ k1 ⟨rfl, hk⟩
    exact ⟨miF'_neg db, hk⟩
  · unfold miF' madeF; rw [if_pos (Or.inr y)]
theorem s_cwhole (X : SuS S su ra ro te si) (x : SuOk h su ro te D W T n) : OkL d mX9_whole S [.ref su] h (fun y k => y = whF T n ∧ k = h) := by
  obtain ⟨_, ⟨b1, b2, b3⟩, _⟩ := id x
  refine NX9_whole_0 ?_
  have key : ∀ m i, m + i = n → G mX9_whole d S (f_PL (fun y k => y = whF T n ∧ k = h)) 4 [(0, .ref su), (1, .long (whF T i)), (3, .int (nI i))] [] h := by
    intro m
    induction m with
    | zero =>
      intro i hi
      have e : i = n := by omega
      subst e
      exact NX9_whole_4 X.1.1 X.1.2.2.2.1 ⟨fun _ => ⟨rfl, rfl⟩, fun z => absurd (by rw [b1]; exact Int32.le_refl _) z⟩
    | succ m ih =>
      intro i hi
      refine NX9_whole_4 X.1.1 X.1.2.2.2.1 ⟨fun z => absurd z (by rw [b1]; exact nI_ge (by omega) (by omega)), fun _ => ⟨vp_in_nI (by omega) (by decide), ?_⟩⟩
      rw [nI_clamp (by omega), b3 i (by omega), nI1]
      exact ih (i + 1) (by omega)
  exact key n 0 (by omega)
theorem s_asTold (X : SuS S su ra ro te si) (x : SuOk h su ro te D W T n) (hn : 1 ≤ n) : OkL (d + 3) mX9_asTold S [.ref su] h (fun y k => y = smA D W T id 0 n ∧ fOff [ra] h k) := by
  obtain ⟨_, ⟨b1, b2, b3⟩, hT, hD1, hD4, hW3⟩ := id x
  refine NX9_asTold_0 X.1.1 X.1.2.2.2.1 ⟨vp_in_nI (n := 0) (by decide) (by decide), ?_⟩
  have key : ∀ (m i : Nat) (sv : Int64) (k1 : fH), m + i = n → dcmG sv → fOff [ra] h k1 → smF D W T id m i sv = smA D W T id 0 n → G mX9_asTold (d + 3) S (f_PL (fun y k => y = smA D W T id 0 n ∧ fOff [ra] h k)) 9 [(0, .ref su), (1, .long sv), (3, .int (nI i))] [] k1 := by
    intro m
    induction m with
    | zero =>
      intro i sv k1 hi hd ho he
      have e : i = n := by omega
      subst e
      have xk := x.toR X ho
      exact NX9_asTold_9 X.1.1 X.1.2.2.2.1 ⟨fun _ => ⟨he, ho⟩, fun z => absurd (by rw [xk.2.1.1]; exact Int32.le_refl _) z⟩
    | succ m ih =>
      intro i sv k1 hi hd ho he
      have xk := x.toR X ho
      refine NX9_asTold_9 X.1.1 X.1.2.2.2.1 ⟨fun z => absurd z (by rw [xk.2.1.1]; exact nI_ge (by omega) (by omega)), fun _ => ⟨vp_in_nI (by omega) (by decide), ?_⟩⟩
      rw [nI_clamp (by omega), xk.2.1.2.2 i (by omega), nI1]
      refine ⟨_, s_plus (d := d) X xk hd (Or.inr (hT i (by omega))), ?_⟩
      rintro _ k2 ⟨rfl, hk2⟩
      exact ih (i + 1) _ k2 (by omega) (plF'_dcm hD1 hD4 hd (Or.inr (hT i (by omega)))) (ho.tr hk2) he
  rw [show (0 : Int32).toNatClampNeg = 0 from rfl, b3 0 (by omega)]
  exact key (n - 1) 1 (T 0) h (by omega) (Or.inr (hT 0 (by omega))) fOff.rf rfl
theorem s_beside (X : SuS S su ra ro te si) (x : SuOk h su ro te D W T n) : OkL (d + 4) mX9_beside S [.ref su] h (fun y k => y = bsF D W T n 0 0 0 ∧ fOff [ra] h k) := by
  obtain ⟨_, ⟨b1, b2, b3⟩, hT, hD1, hD4, hW3⟩ := id x
  refine NX9_beside_0 ?_
  have d0 : dcmG 0 := Or.inr ⟨by decide, by decide⟩
  have key : ∀ (m i : Nat) (sv cv : Int64) (k1 : fH), m + i = n → dcmG sv → dcmG cv → fOff [ra] h k1 → bsF D W T m i sv cv = bsF D W T n 0 0 0 → G mX9_beside (d + 4) S (f_PL (fun y k => y = bsF D W T n 0 0 0 ∧ fOff [ra] h k)) 7 [(0, .ref su), (1, .long sv), (3, .long cv), (5, .int (nI i))] [] k1 := by
    intro m
    induction m with
    | zero =>
      intro i sv cv k1 hi hd hd2 ho he
      have e : i = n := by omega
      subst e
      have xk := x.toR X ho
      exact NX9_beside_7 X.1.1 X.1.2.2.2.1 ⟨fun _ => ⟨he, ho⟩, fun z => absurd (by rw [xk.2.1.1]; exact Int32.le_refl _) z⟩
    | succ m ih =>
      intro i sv cv k1 hi hd hd2 ho he
      have xk := x.toR X ho
      refine NX9_beside_7 X.1.1 X.1.2.2.2.1 ⟨fun z => absurd z (by rw [xk.2.1.1]; exact nI_ge (by omega) (by omega)), fun _ => ⟨vp_in_nI (by omega) (by decide), ?_⟩⟩
      rw [nI_clamp (by omega), xk.2.1.2.2 i (by omega), nI1]
      have e1 : dcmG (miF' D W (T i) cv) := miF'_dcm hD1 hD4 (Or.inr (hT i (by omega))) hd2
      have e2 : dcmG (plF' D W sv (miF' D W (T i) cv)) := plF'_dcm hD1 hD4 hd e1
      have e3 := miF'_dcm (D := D) (W := W) hD1 hD4 e2 hd
      have e4 := miF'_dcm (D := D) (W := W) hD1 hD4 e3 e1
      refine ⟨_, s_cless (d := d) X xk (Or.inr (hT i (by omega))) hd2, ?_⟩
      rintro _ k2 ⟨rfl, hk2⟩
      refine ⟨_, s_plus (d := d + 1) X (xk.toR X hk2) hd e1, ?_⟩
      rintro _ k3 ⟨rfl, hk3⟩
      refine ⟨_, s_cless (d := d) X (xk.toR X (hk2.tr hk3)) e2 hd, ?_⟩
      rintro _ k4 ⟨rfl, hk4⟩
      refine ⟨_, s_cless (d := d) X (xk.toR X ((hk2.tr hk3).tr hk4)) e3 e1, ?_⟩
      rintro _ k5 ⟨rfl, hk5⟩
      have hk : fOff [ra] h k5 := ((ho.tr hk2).tr (hk3.tr hk4)).tr hk5
      simp only [bsF] at he
      refine ⟨fun y => ?_, fun y => ?_⟩
      · rw [if_neg y] at he
        exact ih (i + 1) _ _ k5 (by omega) e2 e4 hk he
      · rw [if_pos y] at he
        exact ⟨he, hk⟩
  exact key n 0 0 0 h (by omega) d0 d0 fOff.rf rfl
theorem hfF_dcm (hD1 : 1 ≤ D) (hD4 : D ≤ 4) (hT : ∀ j, j < n → dcm (T j)) : ∀ (k a b : Nat), a < b → b ≤ n → dcmG (hfF D W T k a b)
  | 0, a, b, h1, h2 => Or.inr (hT a (by omega))
  | k + 1, a, b, h1, h2 => by
    simp only [hfF]
    split
    · exact Or.inr (hT a (by omega))
    · exact plF'_dcm hD1 hD4 (hfF_dcm hD1 hD4 hT k a _ (by omega) (by omega)) (hfF_dcm hD1 hD4 hT k _ b (by omega) h2)
theorem s_halfSum (X : SuS S su ra ro te si) : ∀ (k a b dp : Nat) {h : fH}, SuOk h su ro te D W T n → a < b → b ≤ n → b - a ≤ 2 ^ k → dp + k ≤ 7 → OkL (d + k + 3) mX9_halfSum S [.ref su, .int (nI a), .int (nI b), .int (nI dp)] h (fun y k1 => y = hfF D W T k a b ∧ fOff [ra] h k1) := by
  intro k
  induction k with
  | zero =>
    intro a b dp h x hab hb hk hdp
    obtain ⟨_, ⟨b1, b2, b3⟩, hT, hD1, hD4, hW3⟩ := id x
    have e : b - a = 1 := by simp at hk; omega
    refine NX9_halfSum_0 X.1.1 X.1.2.2.2.1 ⟨fun z => absurd z (nI_lt0 (by omega)), fun _ => ⟨fun z => absurd z (by rw [b1]; exact nI_nlt hb (by omega)), fun _ => ?_⟩⟩
    rw [pk_sub (by omega), e]
    refine ⟨fun z => absurd z (by decide), fun _ => ⟨fun _ => ⟨fun z => absurd (by decide) z, fun _ => ⟨vp_in_nI (by omega) (by decide), ?_, fOff.rf⟩⟩, fun z => absurd (nI_le (b := 7) (by omega) (by decide)) z⟩⟩
    rw [nI_clamp (by omega), b3 a (by omega)]
    rfl
  | succ k ih =>
    intro a b dp h x hab hb hk hdp
    obtain ⟨_, ⟨b1, b2, b3⟩, hT, hD1, hD4, hW3⟩ := id x
    have hs : (b - a + 1) / 2 ≤ 2 ^ k ∧ b - (a + (b - a + 1) / 2) ≤ 2 ^ k := by rw [Nat.pow_succ] at hk; omega
    refine NX9_halfSum_0 X.1.1 X.1.2.2.2.1 ⟨fun z => absurd z (nI_lt0 (by omega)), fun _ => ⟨fun z => absurd z (by rw [b1]; exact nI_nlt hb (by omega)), fun _ => ?_⟩⟩
    rw [pk_sub (by omega), nI1, show (2 : Int32) = nI 2 from rfl, pk_div (by omega) (by decide) (by decide), nI_add, nI1]
    refine ⟨fun z => absurd z (nI_nlt (b := 1) (by omega) (by omega)), fun _ => ⟨fun _ => ⟨fun y => ?_, fun y => ?_⟩, fun z => absurd (nI_le (b := 7) (by omega) (by decide)) z⟩⟩
    · have y : ¬ b - a = 1 := fun q => y (by rw [q]; rfl)
      refine ⟨_, ih a (a + (b - a + 1) / 2) (dp + 1) x (by omega) (by omega) (by omega) (by omega), ?_⟩
      rintro _ k1 ⟨rfl, hk1⟩
      refine ⟨_, ih (a + (b - a + 1) / 2) b (dp + 1) (x.toR X hk1) (by omega) hb (by omega) (by omega), ?_⟩
      rintro _ k2 ⟨rfl, hk2⟩
      refine ⟨_, s_plus (d := d + k + 1) X (x.toR X (hk1.tr hk2)) (hfF_dcm hD1 hD4 hT k _ _ (by omega) (by omega)) (hfF_dcm hD1 hD4 hT k _ _ (by omega) (by omega)), ?_⟩
      rintro _ k3 ⟨rfl, hk3⟩
      refine ⟨?_, (hk1.tr hk2).tr hk3⟩
      simp only [hfF, if_neg y]
    · have y : b - a = 1 := (nI_eq (b := 1) (by omega) (by decide)).mp y
      refine ⟨vp_in_nI (by omega) (by decide), ?_, fOff.rf⟩
      rw [nI_clamp (by omega), b3 a (by omega)]
      simp only [hfF, if_pos y]
theorem s_halves (X : SuS S su ra ro te si) (x : SuOk h su ro te D W T n) (hn : 1 ≤ n) : OkL (d + 7) mX9_halves S [.ref su] h (fun y k => y = hfF D W T 3 0 n ∧ fOff [ra] h k) := by
  have h7 := x.2.1.2.1
  refine NX9_halves_0 X.1.1 ⟨_, ?_, fun _ _ z => z⟩
  rw [x.2.1.1]
  exact s_halfSum (d := d) X 3 0 n 0 x (by omega) (Nat.le_refl n) (by omega) (by decide)
theorem s_insertBySize {k : Nat} {P : Nat → Nat} (X : SuS S su ra ro te si) (x : SuOk h su ro te D W T n) (hk : k < n) (hP : ∀ j, j < k → h.2.2.1 si j = nI (P j) ∧ P j < n) :
    OkV (d + 1) mX9_insertBySize S [.ref su, .int (nI k)] h (fun k1 => (∀ j, j ≤ k → k1.2.2.1 si j = nI (insF T k k P j)) ∧ fOff [ra, si] h k1) := by
  obtain ⟨⟨x1, x2, x3, x4, x5⟩, nd⟩ := id X
  have b2 := x.2.1.2.1
  refine NX9_insertBySize_0 ?_
  have key : ∀ (q : Nat) (P1 : Nat → Nat) (k1 : fH), q ≤ k → fOff [ra, si] h k1 → (∀ j, j ≤ k → j ≠ q → k1.2.2.1 si j = nI (P1 j) ∧ P1 j < n) → insF T k q P1 = insF T k k P → G mX9_insertBySize (d + 1) S (f_PV (fun k1 => (∀ j, j ≤ k → k1.2.2.1 si j = nI (insF T k k P j)) ∧ fOff [ra, si] h k1)) 2 [(0, .ref su), (1, .int (nI k)), (2, .int (nI q))] [] k1 := by
    intro q
    induction q with
    | zero =>
      intro P1 k1 hq ho hj he
      refine NX9_insertBySize_2 x1 x5 x4 ⟨fun _ => ⟨vp_in_nI (by omega) (by decide), ?_⟩, fun z => absurd (by decide) z⟩
      rintro k2 rfl
      refine ⟨fun j hj2 => ?_, ho.of (f_off_ai _ _ _) (by simp)⟩
      rw [u_ai_s, nI_clamp (by omega), ← he]
      simp only [insF, stF]
      by_cases e : j = 0
      · subst e; rw [upd_s, if_pos rfl]
      · rw [upd_n _ _ e, if_neg e]; exact (hj j hj2 e).1
    | succ q ih =>
      intro P1 k1 hq ho hj he
      have xk := x.rs X ho
      have hq1 := hj q (by omega) (by omega)
      refine NX9_insertBySize_2 x1 x5 x4 ⟨fun z => absurd z (nI_nle (by omega) (by omega)), fun _ => ?_⟩
      rw [nI_pred, nI_clamp (n := q) (by omega), nI_clamp (n := q + 1) (by omega), nI_clamp (n := k) (by omega), hq1.1]
      refine ⟨vp_in_nI (by omega) (by decide), _, s_at (by decide) x4, ?_⟩
      rintro _ k1 ⟨rfl, rfl⟩
      rw [atF_in (by decide) (by omega), xk.2.1.2.2 _ hq1.2, xk.2.1.2.2 k hk, absL_m, absL_m]
      refine ⟨vp_in_nI (by omega) (by decide), fun y => ⟨vp_in_nI (by omega) (by decide), ?_⟩, fun y => ⟨vp_in_nI (by omega) (by decide), ?_⟩⟩
      · rintro k2 rfl
        refine ⟨fun j hj2 => ?_, ho.of (f_off_ai _ _ _) (by simp)⟩
        rw [u_ai_s, ← he]
        simp only [insF, if_pos y, stF]
        by_cases e : j = q + 1
        · subst e; rw [upd_s, if_pos rfl]
        · rw [upd_n _ _ e, if_neg e]; exact (hj j hj2 e).1
      · rintro k2 rfl
        rw [i_dn, i_pred]
        refine ih (stF P1 (q + 1) (P1 q)) _ (by omega) (ho.of (f_off_ai _ _ _) (by simp)) ?_ ?_
        · intro j hj2 hne
          rw [u_ai_s]
          simp only [stF]
          by_cases e : j = q + 1
          · subst e; rw [upd_s, if_pos rfl]; exact hq1
          · rw [upd_n _ _ e, if_neg e]; exact hj j hj2 e
        · rw [← he]
          simp only [insF, if_neg y]
  exact key k P h (Nat.le_refl k) fOff.rf (fun j hj hne => hP j (by omega)) rfl
theorem s_bySize (X : SuS S su ra ro te si) (x : SuOk h su ro te D W T n) (hn : 1 ≤ n) : OkL (d + 3) mX9_bySize S [.ref su] h (fun y k => y = smA D W T (bzF T n) 0 n ∧ fOff [ra, si] h k) := by
  obtain ⟨⟨x1, x2, x3, x4, x5⟩, nd⟩ := id X
  obtain ⟨_, ⟨b1, b2, b3⟩, hT, hD1, hD4, hW3⟩ := id x
  simp only [List.nodup_cons, List.mem_cons, List.not_mem_nil, or_false, not_or] at nd
  have hTo : ∀ j, j < n → dcm (T (bzF T n j)) := fun j hj => hT _ (bzF_lt T n j hj)
  -- the sum
  have sm : ∀ (m i : Nat) (sv : Int64) (k1 : fH), m + i = n → dcmG sv → fOff [ra, si] h k1 → (∀ j, j < n → k1.2.2.1 si j = nI (bzF T n j)) → smF D W T (bzF T n) m i sv = smA D W T (bzF T n) 0 n → G mX9_bySize (d + 3) S (f_PL (fun y k => y = smA D W T (bzF T n) 0 n ∧ fOff [ra, si] h k)) 37 [(0, .ref su), (1, .long sv), (3, .int (nI i))] [] k1 := by
    intro m
    induction m with
    | zero =>
      intro i sv k1 hi hd ho hs he
      have e : i = n := by omega
      subst e
      have xk := x.rs X ho
      exact NX9_bySize_37 x1 x5 ⟨fun _ => ⟨he, ho⟩, fun z => absurd (by rw [xk.2.1.1]; exact Int32.le_refl _) z⟩
    | succ m ih =>
      intro i sv k1 hi hd ho hs he
      have xk := x.rs X ho
      have hbz := bzF_lt T n i (by omega)
      refine NX9_bySize_37 x1 x5 ⟨fun z => absurd z (by rw [xk.2.1.1]; exact nI_ge (by omega) (by omega)), fun _ => ⟨vp_in_nI (by omega) (by decide), ?_⟩⟩
      rw [nI_clamp (by omega), hs i (by omega)]
      refine ⟨_, s_at (by decide) x4, ?_⟩
      rintro _ k1 ⟨rfl, rfl⟩
      rw [atF_in (by decide) (by omega), xk.2.1.2.2 _ hbz, nI1]
      refine ⟨_, s_plus (d := d) X xk hd (Or.inr (hTo i (by omega))), ?_⟩
      rintro _ k2 ⟨rfl, hk2⟩
      exact ih (i + 1) _ k2 (by omega) (plF'_dcm hD1 hD4 hd (Or.inr (hTo i (by omega)))) (ho.tr (hk2.mono (by simp))) (fun j hj => by rw [(hk2 si (by simp; omega)).2.2.1]; exact hs j hj) he
  have ins : ∀ (m i : Nat) (k1 : fH), m + i = n → fOff [ra, si] h k1 → (∀ j, j < i → k1.2.2.1 si j = nI (bzF T i j)) → G mX9_bySize (d + 3) S (f_PL (fun y k => y = smA D W T (bzF T n) 0 n ∧ fOff [ra, si] h k)) 2 [(0, .ref su), (1, .int (nI i))] [] k1 := by
    intro m
    induction m with
    | zero =>
      intro i k1 hi ho hs
      have e : i = n := by omega
      subst e
      have xk := x.rs X ho
      have hbz := bzF_lt T i 0 (by omega)
      refine NX9_bySize_2 x1 x5 ⟨fun _ => ⟨vp_in_nI (n := 0) (by decide) (by decide), ?_⟩, fun z => absurd (by rw [xk.2.1.1]; exact Int32.le_refl _) z⟩
      rw [show (0 : Int32).toNatClampNeg = 0 from rfl, hs 0 (by omega)]
      refine ⟨_, s_at (by decide) x4, ?_⟩
      rintro _ k1 ⟨rfl, rfl⟩
      rw [atF_in (by decide) (by omega), xk.2.1.2.2 _ hbz]
      exact sm (i - 1) 1 _ k1 (by omega) (Or.inr (hTo 0 (by omega))) ho hs rfl
    | succ m ih =>
      intro i k1 hi ho hs
      have xk := x.rs X ho
      refine NX9_bySize_2 x1 x5 ⟨fun z => absurd z (by rw [xk.2.1.1]; exact nI_ge (by omega) (by omega)), fun _ => ?_⟩
      refine ⟨_, s_insertBySize (d := d + 1) (P := bzF T i) X xk (by omega) (fun j hj => ⟨hs j hj, by have := bzF_lt T i j hj; omega⟩), ?_⟩
      rintro k2 ⟨hk2, ho2⟩
      rw [nI1]
      exact ih (i + 1) k2 (by omega) (ho.tr ho2) (fun j hj => hk2 j (by omega))
  refine NX9_bySize_0 ?_
  exact ins n 0 h (by omega) fOff.rf (fun j hj => by omega)
end CSUMS

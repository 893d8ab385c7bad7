/-! ===== the reference's findOrders ===== -/
theorem whF_bd {T : Nat → Int64} {n : Nat} (h7 : n ≤ 7) (hT : ∀ j, j < n → dcm (T j)) : ∀ k, k ≤ n → (whF T k).toInt.natAbs ≤ k * 10 ^ 16
  | 0, _ => by
    show (0 : Int64).toInt.natAbs ≤ 0 * 10 ^ 16
    decide
  | k + 1, hk => by
    have ih := whF_bd h7 hT k (by omega)
    have hd := (hT k (by omega)).1
    simp only [whF]
    have e : whF T k + T k = Int64.ofInt ((whF T k).toInt + (T k).toInt) := by rw [Int64.ofInt_add, Int64.ofInt_toInt, Int64.ofInt_toInt]
    rw [e, lO_toInt (by omega) (by omega)]
    omega
theorem whF_ng {T : Nat → Int64} {n : Nat} (h7 : n ≤ 7) (hT : ∀ j, j < n → dcm (T j)) : ¬ whF T n = 1000000000000000000 := by
  intro e
  have := whF_bd h7 hT n (Nat.le_refl n)
  rw [e, show (1000000000000000000 : Int64).toInt = 1000000000000000000 from rfl] at this
  omega
theorem smF_drop {D W : Nat} {T : Nat → Int64} {p : List Nat} : ∀ (m i : Nat) (s : Int64), i + m = p.length → smF D W T (fun j => p.getD j 0) m i s = (p.drop i).foldl (fun s x => plF' D W s (T x)) s
  | 0, i, s, h => by
    rw [List.drop_eq_nil_of_le (by omega)]
    rfl
  | m + 1, i, s, h => by
    have hi : i < p.length := by omega
    rw [List.drop_eq_getElem_cons hi]
    simp only [smF, List.foldl_cons]
    rw [smF_drop m (i + 1) _ (by omega)]
    congr 2
    simp [hi]
theorem smA_L {D W : Nat} {T : Nat → Int64} {p : List Nat} {n : Nat} (hp : p.length = n) (hn : 1 ≤ n) : smA D W T (fun j => p.getD j 0) 0 n = smL D W T p := by
  unfold smA smL
  rw [smF_drop _ _ _ (by omega), ← List.drop_one]
theorem ck_cons {n : Nat} {p : List Nat} {r : List (List Nat)} (h : ckL n (p :: r) none = true) : nxL n p = r.head? ∧ ckL n r none = true := by
  cases r with
  | nil =>
    simp only [ckL, Bool.and_true, decide_eq_true_eq] at h
    exact ⟨h, rfl⟩
  | cons q s =>
    rw [ckL, Bool.and_eq_true, decide_eq_true_eq] at h
    exact h
abbrev fFo : fL := ([2, 3, 4, 5, 6, 25], [2, 3, 4, 5, 6, 24], [14, 15], [])
theorem getD_lt {p : List Nat} {n j : Nat} (hx : ∀ x ∈ p, x < n) (hj : j < p.length) : p.getD j 0 < n := by
  have : p.getD j 0 = p[j] := by simp [hj]
  rw [this]
  exact hx _ (List.getElem_mem hj)
section MFIND
variable {d : Nat} {h : fH} {D W n most : Nat} {T : Nat → Int64}
theorem MOl.of {h k : fH} {p : List Nat} {n : Nat} {q : fL} (a : MOl h p n) (b : mF q h k) (h2 : q.2.2.1.contains 14 = false) : MOl k p n :=
  ⟨a.1, fun j hj => ⟨by rw [b.2.2.1 _ (nin_of h2)]; exact (a.2 j hj).1, (a.2 j hj).2⟩⟩
theorem s_findOrders (hm : most ≤ 1) (x : MDW h D W) (t : MTm h T n) : OkV (d + 6) mX12_findOrders SM [.ref 1, .int (nI most)] h (fun k => MOa k n (orG D W T n most) ∧ mF fFo h k) := by
  have h7 := t.2.1
  have wng := whF_ng h7 t.2.2
  have key : 1 ≤ n → ∀ (L : List (List Nat)) (A : oA) (g : fH), mF fFo h g → MOa g n A → A.1 + L.length < 2 ^ 30 → (∀ q ∈ L, q.length = n ∧ ∀ y ∈ q, y < n) → ckL n L none = true → (∀ p r, L = p :: r → MOl g p n) → L.foldl (osF D W T (whF T n) most) A = orG D W T n most →
      G mX12_findOrders (d + 6) SM (f_PV (fun k => MOa k n (orG D W T n most) ∧ mF fFo h k)) 28 [(0, .ref 1), (1, .int (nI most)), (2, .long (whF T n)), (4, .int (bI (!L.isEmpty)))] [] g := by
    intro hn L
    induction L with
    | nil =>
      intro A g hf a hb hq hck hol he
      refine NX12_findOrders_28 hM ⟨fun _ => ⟨?_, hf⟩, fun z => absurd rfl z⟩
      simp only [List.foldl_nil] at he
      rw [← he]; exact a
    | cons p r ih =>
      intro A g hf a hb hq hck hol he
      have mol := hol p r rfl
      have tg := t.of hf (by decide) (by decide)
      have xg := x.of hf (by decide) (by decide)
      have hck := ck_cons hck
      simp only [List.foldl_cons] at he
      simp only [List.length_cons] at hb
      have hle := osF_le D W T (whF T n) most A p
      -- on to the next order
      have nxt : ∀ (g1 : fH), mF fFo h g1 → MOa g1 n (osF D W T (whF T n) most A p) → MOl g1 p n → ∃ Q9 : Int32 → fH → Prop, OkI (d + 5) mX12_nextOrder SM [.ref 1] g1 Q9 ∧ ∀ (v9 : Int32) (k9 : fH), Q9 v9 k9 → G mX12_findOrders (d + 6) SM (f_PV (fun k => MOa k n (orG D W T n most) ∧ mF fFo h k)) 28 [(0, .ref 1), (1, .int (nI most)), (2, .long (whF T n)), (4, .int v9)] [] k9 := by
        intro g1 f1 a1 m1
        refine ⟨_, s_nextOrder (t.of f1 (by decide) (by decide)) hn m1, ?_⟩
        rintro v9 k9 ⟨rfl, hk9, f9⟩
        have e9 : (nxL n p).isSome = !r.isEmpty := by
          rw [hck.1]
          cases r <;> rfl
        rw [e9]
        refine ih _ k9 (f1.go f9 (by decide)) (a1.of f9 (by decide) (by decide) (by decide)) (by omega) (fun q hq9 => hq q (List.mem_cons_of_mem _ hq9)) hck.2 (fun p2 r2 e2 => ?_) he
        apply hk9 p2
        rw [hck.1, e2]
        rfl
      have one : (1 : Int32) = bI true := rfl
      refine NX12_findOrders_28 hM ⟨fun z => absurd z (show ¬ bI true = 0 by decide), fun _ => ?_⟩
      rw [tg.1.1]
      refine ⟨_, s_sumOf (d := d + 1) (a := 0) (b := n) (o := fun j => p.getD j 0) xg tg (fun j hj => mol.2 j hj) (by omega) (Nat.le_refl n), ?_⟩
      rintro _ k1 ⟨rfl, f1⟩
      rw [smA_L mol.1 hn]
      refine ⟨_, s_mless, ?_⟩
      rintro _ k1 ⟨rfl, rfl⟩
      have hf1 : mF fFo h k1 := hf.go f1 (by decide)
      have a1 := a.of f1 (by decide) (by decide) (by decide)
      have m1 := mol.of f1 (by decide)
      have hA := a1.1.2
      -- with a count of c more
      have cnt : ∀ (g1 : fH) (A1 A2 : oA) (c : Int32), mF fFo h g1 → MOa g1 n A1 → MOl g1 p n → nI A1.1 + c = nI A2.1 → A2.1 < 2 ^ 30 → A1.2 = A2.2 → (A1.1 = 0 → A2.1 = 0) → osF D W T (whF T n) most A p = A2 → ∀ g2 : fH, g2 = u_fi g1 1 25 (g1.1 1 25 + c) → ∃ Q9 : Int32 → fH → Prop, OkI (d + 5) mX12_nextOrder SM [.ref 1] g2 Q9 ∧ ∀ (v9 : Int32) (k9 : fH), Q9 v9 k9 → G mX12_findOrders (d + 6) SM (f_PV (fun k => MOa k n (orG D W T n most) ∧ mF fFo h k)) 28 [(0, .ref 1), (1, .int (nI most)), (2, .long (whF T n)), (4, .int v9)] [] k9 := by
        rintro g1 A1 A2 c f9 a9 m9 ec hc2 e2 e0 eA g2 rfl
        refine nxt _ (f9.fi (by decide)) ?_ m9
        rw [eA]
        refine ⟨⟨by rw [u_fi_s, a9.1.1, ec], hc2⟩, fun z => ?_⟩
        have := a9.2 (fun q => z (e0 q))
        rw [← e2]
        exact this
      refine ⟨fun z => ?_, fun z => ?_⟩
      · have eA : osF D W T (whF T n) most A p = A := by unfold osF; rw [if_pos z]
        refine NX12_findOrders_114 hM ⟨fun _ => ?_, fun y => absurd z y⟩
        exact cnt k1 A A 0 hf1 a1 m1 (Int32.add_zero _) hA rfl id eA
      · have el : lessF (smL D W T p) (whF T n) = smL D W T p - whF T n := by unfold lessF; rw [if_neg (by simp [z, wng])]
        rw [el]
        have eA : osF D W T (whF T n) most A p = otF most A (smL D W T p - whF T n) p := by unfold osF; rw [if_neg z]
        generalize smL D W T p - whF T n = l at *
        refine ⟨_, s_isBetter (d := d + 4) hm a1, ?_⟩
        rintro _ k1 ⟨rfl, rfl⟩
        refine ⟨fun y => ?_, fun y => ?_⟩
        · have y := bI_0.mp y
          simp only [Bool.or_eq_false_iff, decide_eq_false_iff_not] at y
          refine NX12_findOrders_114 hM ⟨fun w => absurd w z, fun _ => ?_⟩
          rw [(a1.2 y.1).1]
          refine ⟨fun w => ?_, fun w => ?_⟩
          · exact cnt k1 A A 0 hf1 a1 m1 (Int32.add_zero _) hA rfl id (by rw [eA]; unfold otF; rw [if_neg (fun q => w q.2), if_neg (by simp [y.1, y.2])])
          · refine cnt k1 A (A.1 + 1, A.2.1, A.2.2) 1 hf1 a1 m1 (nI1 _) (by simp only; omega) rfl (fun q => absurd q y.1) ?_
            rw [eA]; unfold otF; rw [if_pos ⟨y.1, w⟩]
        · have y := bI_n0.mp y
          simp only [Bool.or_eq_true, decide_eq_true_eq] at y
          have hnot : ¬ (¬ A.1 = 0 ∧ l = A.2.1) := by
            rintro ⟨q1, q2⟩
            rcases y with y | y
            · exact q1 y
            · rw [q2] at y
              unfold prB at y
              rw [if_pos rfl, decide_eq_true_eq] at y
              exact absurd y (Int64.lt_irrefl)
          have eN : osF D W T (whF T n) most A p = (1, l, p) := by rw [eA]; unfold otF; rw [if_neg hnot, if_pos y]
          rintro g1 rfl g2 rfl
          have cp : ∀ (m i : Nat) (g : fH), m + i = n → mF fFo h g → g.1 1 25 = 0 → g.2.1 1 24 = l → MOl g p n → (∀ j, j < i → g.2.2.1 15 j = nI (p.getD j 0)) → G mX12_findOrders (d + 6) SM (f_PV (fun k => MOa k n (orG D W T n most) ∧ mF fFo h k)) 85 [(0, .ref 1), (1, .int (nI most)), (2, .long (whF T n)), (5, .long (smL D W T p)), (7, .long l), (9, .int (nI i))] [] g := by
            intro m
            induction m with
            | zero =>
              intro i g hi f9 c9 l9 m9 b9
              have e : i = n := by omega
              subst e
              refine NX12_findOrders_85 hM hM14 hM15 ⟨fun _ => ?_, fun w => absurd (by rw [(t.of f9 (by decide) (by decide)).1.1]; exact Int32.le_refl _) w⟩
              refine NX12_findOrders_114 hM ⟨fun w => absurd w z, fun _ => ⟨fun w => absurd l9.symm w, fun _ => ?_⟩⟩
              rintro g3 rfl
              refine nxt _ (f9.fi (by decide)) ?_ m9
              rw [eN]
              exact ⟨⟨by rw [u_fi_s, c9]; rfl, by simp only; omega⟩, fun _ => ⟨l9, fun j hj => b9 j hj⟩⟩
            | succ m ihm =>
              intro i g hi f9 c9 l9 m9 b9
              refine NX12_findOrders_85 hM hM14 hM15 ⟨fun w => absurd w (by rw [(t.of f9 (by decide) (by decide)).1.1]; exact nI_ge (by omega) (by omega)), fun _ => ⟨vp_in_nI (by omega) (by decide), ?_⟩⟩
              rintro g3 rfl
              rw [nI1, nI_clamp (by omega), (m9.2 i (by omega)).1]
              refine ihm (i + 1) _ (by omega) (f9.ai (by decide)) c9 l9 ⟨m9.1, fun j hj => ?_⟩ (fun j hj => ?_)
              · rw [u_ai_n _ _ (by decide)]; exact m9.2 j hj
              · rw [u_ai_s]
                by_cases e : j = i
                · subst e; rw [upd_s]
                · rw [upd_n _ _ e]; exact b9 j (by omega)
          refine cp n 0 _ (by omega) ((hf1.fl (by decide)).fi (by decide)) (by rw [u_fi_s]) (by rw [u_fi_2, u_fl_s]) m1 (fun j hj => by omega)
  refine NX12_findOrders_0 hM ?_
  rintro g1 rfl
  have f1 : mF fFo h (u_fi h 1 25 0) := mF.rf.fi (by decide)
  refine ⟨_, s_wholeSum (t.of f1 (by decide) (by decide)), ?_⟩
  rintro _ g1 ⟨rfl, e1⟩
  subst e1
  refine ⟨_, s_layOrder (t.of f1 (by decide) (by decide)), ?_⟩
  rintro g2 ⟨o2, f2⟩
  have f12 : mF fFo h g2 := f1.go f2 (by decide)
  have c2 : g2.1 1 25 = 0 := by rw [f2.1 25 (by decide), u_fi_s]
  have a0 : MOa g2 n (0, 0, []) := ⟨⟨by rw [c2]; rfl, by decide⟩, fun z => absurd rfl z⟩
  rw [(t.of f12 (by decide) (by decide)).1.1]
  refine ⟨fun z => ?_, fun z => ?_⟩
  · have e : n = 0 := by
      rw [show (0 : Int32) = nI 0 from rfl, nI_leI (by omega) (by decide)] at z
      omega
    refine NX12_findOrders_28 hM ⟨fun _ => ⟨?_, f12⟩, fun y => absurd rfl y⟩
    have eg : orG D W T n most = (0, 0, []) := by unfold orG; rw [if_pos e]
    rw [eg]; exact a0
  · have hn : 1 ≤ n := by
      rcases Nat.eq_zero_or_pos n with w | w
      · subst w; exact absurd (by decide) z
      · exact w
    have hlen : (exL n n []).length ≤ 823543 := Nat.le_trans (exL_len n n []) (pow7 h7)
    obtain ⟨B, hB⟩ := head_cons (ex_first n hn h7)
    have hk := key hn (exL n n []) (0, 0, []) g2 f12 a0 (by simp only; omega) (fun q hq => by
      have := ex_ok n n [] q (by simp) hq
      simpa using this) (ck_all hn h7) (fun p r e => by
      rw [hB] at e
      cases e
      refine ⟨by simp, fun j hj => ?_⟩
      have ej : (List.range' 0 n).getD j 0 = j := by simp [hj]
      rw [ej]
      exact o2 j hj) (by unfold orG orF; rw [if_neg (by omega)])
    rw [hB] at hk
    exact hk
end MFIND

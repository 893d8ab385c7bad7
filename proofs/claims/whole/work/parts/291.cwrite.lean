/-! ===== the class's Text: add, addPlaces, addPart, areAlike, copyFrom, read ===== -/
/-- a Text is being written: so far the signs L, no more than 13 -/
def BtT (h : fH) (r a : Nat) (L : List Int32) : Prop := h.1 r 3 = nI (min L.length 13) ∧ ∀ i, i < min L.length 13 → h.2.2.1 a i = L.getD i 0
theorem getD_l {L M : List Int32} {i : Nat} (h : i < L.length) : (L ++ M).getD i 0 = L.getD i 0 := by
  rw [List.getD_eq_getElem?_getD, List.getD_eq_getElem?_getD, List.getElem?_append_left h]
theorem getD_r (L : List Int32) (c : Int32) : (L ++ [c]).getD L.length 0 = c := by simp
theorem BtT.off {h k : fH} {r a : Nat} {L : List Int32} {M : List Nat} (x : BtT h r a L) (o : fOff M h k) (h1 : r ∉ M) (h2 : a ∉ M) : BtT k r a L := by
  unfold BtT at *
  rw [(o r h1).1, (o a h2).2.2.1]
  exact x
theorem prt_eq {t : Nat → Int32} {n i j : Nat} : prt t n i = prt t n j ↔ sz t n i = sz t n j ∧ ∀ q, q < sz t n i → t (i + q) = t (j + q) := by
  constructor
  · intro e
    have hl : sz t n i = sz t n j := by
      have := congrArg List.length e
      unfold prt at this
      rw [seg_len, seg_len] at this
      exact this
    refine ⟨hl, fun q hq => ?_⟩
    have := congrArg (fun L => List.getD L q 0) e
    unfold prt at this
    rw [seg_get hq, seg_get (by omega)] at this
    exact this
  · rintro ⟨e1, e2⟩
    unfold prt seg
    rw [← e1]
    apply List.ext_getElem?
    intro q
    rw [List.getElem?_map, List.getElem?_map]
    by_cases hq : q < sz t n i
    · rw [List.getElem?_range' hq, List.getElem?_range' hq]
      simp only [Option.map_some, Nat.one_mul]
      rw [e2 q hq]
    · rw [List.getElem?_eq_none (by simp; omega), List.getElem?_eq_none (by simp; omega)]
section CWRITE
variable {d : Nat} {S : fW} {h : fH} {r a b c r1 a1 b1 c1 n : Nat} {t : Nat → Int32} {L : List Int32}
theorem s_add {ch : Int32} (T : TxS S r a b c) (x : BtT h r a L) : OkV d mX10_add S [.ref r, .int ch] h (fun k => BtT k r a (L ++ [ch]) ∧ fOff [r, a] h k) := by
  obtain ⟨x1, x2⟩ := id x
  have nra : r ≠ a := T.2.1
  have hm : min L.length 13 < 2 ^ 31 := by omega
  refine NX10_add_0 T.1.1 T.1.2.1 ?_
  rw [x1]
  refine ⟨fun z => absurd z (nI_lt0 hm), fun _ => ⟨fun z => ?_, fun z => ?_⟩⟩
  · have z := (nI_leI (a := 13) (by decide) hm).mp z
    refine ⟨⟨?_, fun i hi => ?_⟩, fOff.rf⟩
    · rw [x1, List.length_append, List.length_singleton]; congr 1; omega
    · rw [getD_l (by omega)]; exact x2 i (by omega)
  · have z : min L.length 13 < 13 := by
      rcases Nat.lt_or_ge (min L.length 13) 13 with q | q
      · exact q
      · exact absurd (nI_le q hm) z
    have e : min L.length 13 = L.length := by omega
    refine ⟨vp_in_nI z (by decide), ?_⟩
    rw [nI_clamp hm, e]
    rintro g1 rfl g2 rfl
    refine ⟨⟨?_, fun i hi => ?_⟩, (fOff.rf.of (f_off_ai _ _ _) (by simp)).of (f_off_fi _ _ _ _) (by simp)⟩
    · rw [u_fi_s, u_ai_1, x1, nI1, List.length_append, List.length_singleton]; congr 1; omega
    · rw [List.length_append, List.length_singleton] at hi
      show (u_ai h a (upd (h.2.2.1 a) L.length ch)).2.2.1 a i = _
      rw [u_ai_s]
      by_cases q : i = L.length
      · subst q; rw [upd_s, getD_r]
      · rw [upd_n _ _ q, getD_l (by omega)]; exact x2 i (by omega)
theorem s_addPlaces {i j : Nat} (T : TxS S r a b c) (T1 : TxS S r1 a1 b1 c1) (nd : [r, a, r1, a1, b1, c1].Nodup) (y : TxOk h r1 a1 b1 c1 t n) (x : BtT h r a L) (hij : i ≤ j) (hj : j ≤ n) :
    OkV (d + 1) mX10_addPlaces S [.ref r, .ref r1, .int (nI i), .int (nI j)] h (fun k => BtT k r a (L ++ seg t i (j - i)) ∧ fOff [r, a] h k) := by
  have h13 := y.2.1
  refine NX10_addPlaces_0 ?_
  have key : ∀ (m q : Nat) (M : List Int32) (k : fH), m + q = j → i ≤ q → BtT k r a M → M ++ seg t q m = L ++ seg t i (j - i) → fOff [r, a] h k → G mX10_addPlaces (d + 1) S (f_PV (fun k => BtT k r a (L ++ seg t i (j - i)) ∧ fOff [r, a] h k)) 3 [(0, .ref r), (1, .ref r1), (3, .int (nI j)), (4, .int (nI q))] [] k := by
    intro m
    induction m with
    | zero =>
      intro q M k hq hiq xk e ok
      have : q = j := by omega
      subst this
      refine NX10_addPlaces_3 T1.1.1 T.1.1 ⟨fun _ => ⟨?_, ok⟩, fun z => absurd (Int32.le_refl _) z⟩
      rw [← e]
      simpa [seg] using xk
    | succ m ih =>
      intro q M k hq hiq xk e ok
      have yk := y.off ok (nd_out nd 2 [0, 1] rfl rfl (by decide)) (nd_out nd 3 [0, 1] rfl rfl (by decide)) (nd_out nd 4 [0, 1] rfl rfl (by decide)) (nd_out nd 5 [0, 1] rfl rfl (by decide))
      refine NX10_addPlaces_3 T1.1.1 T.1.1 ⟨fun z => absurd z (nI_ge (by omega) (by omega)), fun _ => ⟨_, s_signAt T1 yk.1 h13 (by omega), ?_⟩⟩
      rintro _ k ⟨rfl, rfl⟩
      rw [if_pos (by omega), yk.2.2.1 q (by omega), nI1]
      refine ⟨_, s_add T xk, ?_⟩
      rintro k2 ⟨x2, o2⟩
      refine ih (q + 1) _ k2 (by omega) (by omega) x2 ?_ (ok.tr o2)
      rw [← e, seg_cons, List.append_assoc]
      rfl
  exact key (j - i) i L h (by omega) (Nat.le_refl i) x rfl fOff.rf
theorem s_addPart {i : Nat} (T : TxS S r a b c) (T1 : TxS S r1 a1 b1 c1) (nd : [r, a, r1, a1, b1, c1].Nodup) (y : TxOk h r1 a1 b1 c1 t n) (hv : ∃ o, valO o t n) (x : BtT h r a L) (hi : i < n) :
    OkV (d + 2) mX10_addPart S [.ref r, .ref r1, .int (nI i)] h (fun k => BtT k r a (L ++ prt t n i) ∧ fOff [r, a] h k) := by
  obtain ⟨o, hvo⟩ := hv
  have h13 := y.2.1
  have hz := sz_le hvo hi
  refine NX10_addPart_0 T1.1.1 T.1.1 ⟨_, s_endOf T1 y.1 h13 (by omega), ?_⟩
  rintro _ h ⟨rfl, rfl⟩
  rw [if_pos hi, y.2.2.2.1 i hi]
  refine ⟨_, s_addPlaces (d := d) T T1 nd y x (Nat.le_add_right i _) hz, ?_⟩
  rintro k ⟨x2, o2⟩
  rw [Nat.add_sub_cancel_left] at x2
  exact ⟨x2, o2⟩
theorem s_areAlike {i j : Nat} (T : TxS S r a b c) (y : TxOk h r a b c t n) (hv : ∃ o, valO o t n) (hi : i < n) (hj : j < n) :
    OkI (d + 1) mX10_areAlike S [.ref r, .int (nI i), .int (nI j)] h (fun v k => v = bI (decide (prt t n i = prt t n j)) ∧ k = h) := by
  obtain ⟨o, hvo⟩ := hv
  have h13 := y.2.1
  have hzi := sz_le hvo hi
  have hzj := sz_le hvo hj
  refine NX10_areAlike_0 T.1.1 ⟨_, s_endOf T y.1 h13 (by omega), ?_⟩
  rintro _ h ⟨rfl, rfl⟩
  refine ⟨_, s_endOf T y.1 h13 (by omega), ?_⟩
  rintro _ h ⟨rfl, rfl⟩
  rw [if_pos hi, if_pos hj, y.2.2.2.1 i hi, y.2.2.2.1 j hj, pk_sub (by omega), pk_sub (by omega), Nat.add_sub_cancel_left, Nat.add_sub_cancel_left]
  have ce : (nI (sz t n j) = nI (sz t n i)) ↔ sz t n j = sz t n i := nI_eq (by omega) (by omega)
  rw [ce]
  refine ⟨fun z => ?_, fun z => ⟨?_, rfl⟩⟩
  · have key : ∀ (m q : Nat), m + q = sz t n i → (∀ p, p < q → t (i + p) = t (j + p)) → G mX10_areAlike (d + 1) S (f_PI (fun v k => v = bI (decide (prt t n i = prt t n j)) ∧ k = h)) 24 [(0, .ref r), (1, .int (nI i)), (2, .int (nI j)), (3, .int (nI (sz t n i))), (4, .int (nI q))] [] h := by
      intro m
      induction m with
      | zero =>
        intro q hq hp
        have : q = sz t n i := by omega
        subst this
        refine NX10_areAlike_24 T.1.1 ⟨fun _ => ⟨?_, rfl⟩, fun w => absurd (Int32.le_refl _) w⟩
        rw [decide_eq_true (prt_eq.mpr ⟨z.symm, hp⟩)]; rfl
      | succ m ih =>
        intro q hq hp
        refine NX10_areAlike_24 T.1.1 ⟨fun w => absurd w (nI_ge (by omega) (by omega)), fun _ => ?_⟩
        rw [nI_add, nI_add, nI1]
        refine ⟨_, s_signAt T y.1 h13 (by omega), ?_⟩
        rintro _ h ⟨rfl, rfl⟩
        refine ⟨_, s_signAt T y.1 h13 (by omega), ?_⟩
        rintro _ h ⟨rfl, rfl⟩
        rw [if_pos (by omega), if_pos (by omega), y.2.2.1 (i + q) (by omega), y.2.2.1 (j + q) (by omega)]
        refine ⟨fun w => ih (q + 1) (by omega) (fun p hp1 => ?_), fun w => ⟨?_, rfl⟩⟩
        · by_cases e : p = q
          · subst e; exact w
          · exact hp p (by omega)
        · rw [decide_eq_false]
          · rfl
          · intro e
            exact w ((prt_eq.mp e).2 q (by omega))
    exact key (sz t n i) 0 (by omega) (fun p hp => by omega)
  · rw [decide_eq_false]
    · rfl
    · intro e
      exact z (prt_eq.mp e).1.symm
theorem s_tcopy (T : TxS S r a b c) (T1 : TxS S r1 a1 b1 c1) (nd : [r, a, b, c, r1, a1, b1, c1].Nodup) (y : TxOk h r1 a1 b1 c1 t n) : OkV (d + 1) mX10_copyFrom S [.ref r, .ref r1] h (fun k => TxOk k r a b c t n ∧ fOff [r, a, b, c] h k) := by
  obtain ⟨y1, y2, y3, y4, y5⟩ := y
  refine NX10_copyFrom_0 T1.1.1 T.1.1 T1.1.2.1 T.1.2.1 T1.1.2.2.1 T.1.2.2.1 T1.1.2.2.2 T.1.2.2.2 ?_
  rintro g1 rfl g2 rfl g3 rfl g4 rfl
  have nab : a ≠ b := nd_ne nd 1 2 rfl rfl (by decide)
  have nac : a ≠ c := nd_ne nd 1 3 rfl rfl (by decide)
  have nbc : b ≠ c := nd_ne nd 2 3 rfl rfl (by decide)
  have n1 : b1 ≠ a := nd_ne nd 6 1 rfl rfl (by decide)
  have n2 : c1 ≠ a := nd_ne nd 7 1 rfl rfl (by decide)
  have n3 : c1 ≠ b := nd_ne nd 7 2 rfl rfl (by decide)
  refine ⟨⟨?_, y2, fun i hi => ?_, fun i hi => ?_, fun i hi => ?_⟩, (((fOff.rf.of (f_off_ai _ _ _) (by simp)).of (f_off_ai _ _ _) (by simp)).of (f_off_ai _ _ _) (by simp)).of (f_off_fi _ _ _ _) (by simp)⟩
  · rw [u_fi_s]; exact y1
  · rw [u_fi_2, u_ai_n _ _ nac, u_ai_n _ _ nab, u_ai_s, sb_cpy0 (by omega)]; exact y3 i hi
  · rw [u_fi_2, u_ai_n _ _ nbc, u_ai_s, sb_cpy0 (by omega), u_ai_n _ _ n1]; exact y4 i hi
  · rw [u_fi_2, u_ai_s, sb_cpy0 (by omega), u_ai_n _ _ n3, u_ai_n _ _ n2]; exact y5 i hi
/-- what is written is a text of the signs L -/
theorem BtT.done {o : Nat → Nat} (T : TxS S r a b c) (x : BtT h r a L) (h13 : L.length ≤ 13) (hv : valO o (fun i => L.getD i 0) L.length) : OkV (d + 1) mX10_findParts S [.ref r] h (fun k => TxOk k r a b c (fun i => L.getD i 0) L.length ∧ fOff [b, c] h k) := by
  obtain ⟨x1, x2⟩ := x
  have e : min L.length 13 = L.length := by omega
  rw [e] at x1 x2
  exact s_findParts T x1 h13 x2 hv
theorem s_read {pad m : Nat} {o : Nat → Nat} (T : TxS S r a b c) (hp : (pad, shI 20) ∈ S) (nd : [r, a, pad].Nodup) (hm : m ≤ 13) (hv : valO o (h.2.2.1 pad) m) :
    OkV (d + 2) mX10_read S [.ref r, .ref pad, .int (nI m)] h (fun k => TxOk k r a b c (h.2.2.1 pad) m ∧ fOff [r, a, b, c] h k) := by
  refine NX10_read_0 T.1.1 ?_
  rintro g1 hg1
  have o1 : fOff [r, a] h g1 := by rw [hg1]; exact fOff.rf.of (f_off_fi _ _ _ _) (by simp)
  have x1 : BtT g1 r a [] := by rw [hg1]; exact ⟨by rw [u_fi_s]; rfl, fun i hi => by simp at hi⟩
  clear hg1
  have key : ∀ (k q : Nat) (g : fH), k + q = m → BtT g r a (seg (h.2.2.1 pad) 0 q) → fOff [r, a] h g → G mX10_read (d + 2) S (f_PV (fun k => TxOk k r a b c (h.2.2.1 pad) m ∧ fOff [r, a, b, c] h k)) 7 [(0, .ref r), (1, .ref pad), (2, .int (nI m)), (3, .int (nI q))] [] g := by
    intro k
    induction k with
    | zero =>
      intro q g hq xg og
      have : q = m := by omega
      subst this
      refine NX10_read_7 T.1.1 hp ⟨fun _ => ?_, fun z => absurd (Int32.le_refl _) z⟩
      obtain ⟨y1, y2⟩ := xg
      rw [seg_len, show min q 13 = q by omega] at y1 y2
      refine ⟨_, s_findParts (d := d) T y1 hm (fun i hi => by rw [y2 i hi, seg_get hi, Nat.zero_add]) hv, ?_⟩
      rintro k9 ⟨r1, r2⟩
      exact ⟨r1, (og.mono (by simp)).tr (r2.mono (by simp))⟩
    | succ k ih =>
      intro q g hq xg og
      refine NX10_read_7 T.1.1 hp ⟨fun z => absurd z (nI_ge (by omega) (by omega)), fun _ => ⟨fun z => absurd z (nI_ge (b := 20) (by omega) (by decide)), fun _ => ⟨vp_in_nI (by omega) (by decide), ?_⟩⟩⟩
      rw [nI_clamp (by omega), (og pad (nd_out nd 2 [0, 1] rfl rfl (by decide))).2.2.1, nI1]
      refine ⟨_, s_add T xg, ?_⟩
      rintro k9 ⟨r1, r2⟩
      refine ih (q + 1) k9 (by omega) ?_ (og.tr r2)
      rw [seg_app, Nat.zero_add]
      exact r1
  exact key m 0 g1 (by omega) x1 o1
end CWRITE

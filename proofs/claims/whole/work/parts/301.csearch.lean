/-! ===== the class's Search ===== -/
theorem i_mod7 {i : Nat} (hi : i < 2 ^ 20) : nI i - nI i / 7 * 7 = nI (i % 7) := pk_rem (d := 7) (by omega) (by decide) (by decide)
theorem i_div7 {i : Nat} (hi : i < 2 ^ 20) : nI i / 7 = nI (i / 7) := pk_div (d := 7) (by omega) (by decide) (by decide)
/-- from the i-th row on, k rows more -/
theorem fm_cons {α β : Type} (g : Nat → Option β) (F : α → β → α) (i k : Nat) (A : α) : ((List.range' i (k + 1)).filterMap g).foldl F A = ((List.range' (i + 1) k).filterMap g).foldl F (match g i with
    | none => A
    | some x => F A x) := by
  rw [List.range'_succ, List.filterMap_cons]
  cases g i <;> rfl
section CS2
variable {d : Nat} {S : fW} {h : fH} {se st v s fr ro ra u l r1 a1 b1 c1 r2 a2 b2 c2 rb ab bb cb nr D W : Nat} {f : Nat → Int32} {T : List Int32} {A : bA}
/-- what the search rests on -/
def SeW (S : fW) (se st v s fr ro ra u l r1 a1 b1 c1 r2 a2 b2 c2 rb ab bb cb nr : Nat) : Prop :=
  (se, shX6 st r1 r2 rb) ∈ S ∧ TxS S r1 a1 b1 c1 ∧ TxS S r2 a2 b2 c2 ∧ TxS S rb ab bb cb ∧ StS S st v s fr ro ra ∧ FrS S fr u l ∧ (nr, shI 5) ∈ S ∧ [v, s, ra, ro, u, l, r1, a1, b1, c1, nr, se, rb, ab, bb, cb, r2, a2, b2, c2].Nodup
def RoOk (h : fH) (ro D W : Nat) : Prop := (h.1 ro 0 = nI D ∧ h.1 ro 1 = nI W ∧ h.1 ro 2 = bI false) ∧ 1 ≤ D ∧ D ≤ 4 ∧ W ≤ 3
theorem RoOk.off {h k : fH} {ro D W : Nat} {L : List Nat} (x : RoOk h ro D W) (o : fOff L h k) (h1 : ro ∉ L) : RoOk k ro D W := by
  unfold RoOk at *
  rw [(o ro h1).1]
  exact x
theorem s_changeAgain (X : SeW S se st v s fr ro ra u l r1 a1 b1 c1 r2 a2 b2 c2 rb ab bb cb nr) (y : TxOk h r1 a1 b1 c1 (rw' T) T.length) (hT : TxL T) (hR : RoOk h ro D W) (hf : h.2.2.1 nr = f) (hfB : nmB f) (hA : BsOk h se rb ab bb cb A) :
    OkV (d + 6) mX6_changeAgain S [.ref se, .ref nr] h (fun k => BsOk k se rb ab bb cb ((allR T).foldl (bsF' D W f) A) ∧ k.1 se = h.1 se ∧ fOff [v, s, ra, u, l, se, rb, ab, bb, cb, r2, a2, b2, c2] h k) := by
  obtain ⟨x1, x2, x3, x4, x5, x6, x7, nd⟩ := X
  have h13 : T.length ≤ 13 := hT.2.1
  refine NX6_changeAgain_0 ?_
  have key : ∀ (k i : Nat) (B : bA) (g : fH), k + i = T.length * 7 → fOff [v, s, ra, u, l, se, rb, ab, bb, cb, r2, a2, b2, c2] h g → g.1 se = h.1 se → BsOk g se rb ab bb cb B → ((List.range' i k).filterMap (opI T)).foldl (bsF' D W f) B = (allR T).foldl (bsF' D W f) A → G mX6_changeAgain (d + 6) S (f_PV (fun k => BsOk k se rb ab bb cb ((allR T).foldl (bsF' D W f) A) ∧ k.1 se = h.1 se ∧ fOff [v, s, ra, u, l, se, rb, ab, bb, cb, r2, a2, b2, c2] h k)) 2 [(0, .ref se), (1, .ref nr), (2, .int (nI i))] [] g := by
    intro k
    induction k with
    | zero =>
      intro i B g hi og eg hB e
      have yg := y.off og (nd_out nd 6 [0, 1, 2, 4, 5, 11, 12, 13, 14, 15, 16, 17, 18, 19] rfl rfl (by decide)) (nd_out nd 7 [0, 1, 2, 4, 5, 11, 12, 13, 14, 15, 16, 17, 18, 19] rfl rfl (by decide)) (nd_out nd 8 [0, 1, 2, 4, 5, 11, 12, 13, 14, 15, 16, 17, 18, 19] rfl rfl (by decide)) (nd_out nd 9 [0, 1, 2, 4, 5, 11, 12, 13, 14, 15, 16, 17, 18, 19] rfl rfl (by decide))
      refine NX6_changeAgain_2 x1 x2.1.1 ⟨fun _ => ⟨?_, eg, og⟩, fun z => absurd ?_ z⟩
      · rw [← e]; simpa using hB
      · rw [yg.1, show (7 : Int32) = nI 7 from rfl, pk_mul]
        exact nI_le (by omega) (by omega)
    | succ k ih =>
      intro i B g hi og eg hB e
      have yg := y.off og (nd_out nd 6 [0, 1, 2, 4, 5, 11, 12, 13, 14, 15, 16, 17, 18, 19] rfl rfl (by decide)) (nd_out nd 7 [0, 1, 2, 4, 5, 11, 12, 13, 14, 15, 16, 17, 18, 19] rfl rfl (by decide)) (nd_out nd 8 [0, 1, 2, 4, 5, 11, 12, 13, 14, 15, 16, 17, 18, 19] rfl rfl (by decide)) (nd_out nd 9 [0, 1, 2, 4, 5, 11, 12, 13, 14, 15, 16, 17, 18, 19] rfl rfl (by decide))
      have onr := og nr (nd_out nd 10 [0, 1, 2, 4, 5, 11, 12, 13, 14, 15, 16, 17, 18, 19] rfl rfl (by decide))
      have hRg := hR.off og (nd_out nd 3 [0, 1, 2, 4, 5, 11, 12, 13, 14, 15, 16, 17, 18, 19] rfl rfl (by decide))
      rw [fm_cons] at e
      refine NX6_changeAgain_2 x1 x2.1.1 ⟨fun z => absurd z ?_, fun _ => ?_⟩
      · rw [yg.1, show (7 : Int32) = nI 7 from rfl, pk_mul]
        exact nI_ge (by omega) (by omega)
      rw [i_mod7 (by omega), i_div7 (by omega), nI1]
      refine ⟨_, s_write (d := d + 1) x3 x2 (nd_sub nd [16, 17, 18, 19, 6, 7, 8, 9] _ rfl (by decide)) yg hT (by omega) (by omega), ?_⟩
      rintro _ k1 ⟨rfl, hw, o1⟩
      have og1 : fOff [v, s, ra, u, l, se, rb, ab, bb, cb, r2, a2, b2, c2] h k1 := og.tr (o1.mono (by simp))
      have eg1 : k1.1 se = h.1 se := (o1 se (nd_out nd 11 [16, 17, 18, 19] rfl rfl (by decide))).1.trans eg
      have hB1 := hB.off o1 (nd_out nd 11 [16, 17, 18, 19] rfl rfl (by decide)) (nd_out nd 12 [16, 17, 18, 19] rfl rfl (by decide)) (nd_out nd 13 [16, 17, 18, 19] rfl rfl (by decide)) (nd_out nd 14 [16, 17, 18, 19] rfl rfl (by decide)) (nd_out nd 15 [16, 17, 18, 19] rfl rfl (by decide))
      refine ⟨fun z => ?_, fun z => ?_⟩
      · have eo : opI T i = none := by unfold opI; rw [bI_0.mp z]; rfl
        rw [eo] at e
        exact ih (i + 1) B k1 (by omega) og1 eg1 hB1 e
      · have z := bI_n0.mp z
        have eo : opI T i = some (wrL (i % 7) (rw' T) T.length (i / 7)) := by unfold opI; rw [if_pos z]
        have hU := opI_ok hT (by omega) eo
        have y2 := hw z
        rw [eo] at e
        have hR1 := hRg.off o1 (nd_out nd 3 [16, 17, 18, 19] rfl rfl (by decide))
        refine ⟨_, s_consider (d := d) (T := wrL (i % 7) (rw' T) T.length (i / 7)) x1 rfl x3 x4 y2 hU x5 x6 x7 (nd_sub nd [0, 1, 2, 3, 4, 5, 16, 17, 18, 19, 10, 11, 12, 13, 14, 15] _ rfl (by decide)) hR1.1.1 hR1.2.1 hR1.2.2.1 hR1.1.2.1 hR1.2.2.2 hR1.1.2.2 (by rw [(o1 nr (nd_out nd 10 [16, 17, 18, 19] rfl rfl (by decide))).2.2.1, onr.2.2.1]; exact hf) hfB hB1, ?_⟩
        rintro k2 ⟨hB2, eg2, o2⟩
        exact ih (i + 1) _ k2 (by omega) (og1.tr (o2.mono (by simp))) (eg2.trans eg1) hB2 e
  exact key (T.length * 7) 0 A h (by omega) fOff.rf rfl hA rfl
end CS2

/-! ===== the loops of the reference's passAll ===== -/
section MPASS3
variable {d : Nat} {h g0 : fH} {b : Nat} {w : Nat → Int64} {Q : fH → Prop}
theorem s_passTerms (hb : b ≤ 40) (hw : ∀ i, i < 7 → w (27 + i) = paF (h.1 1 39) (h.2.2.2 21 (b + (27 + i))) (h.2.2.2 13 i)) (I0 : PaI h b w 27 g0) (t0 : g0.2.2.2 13 = h.2.2.2 13)
    (fin : ∀ k : fH, PaI h b w 34 k → (∀ j, j < 7 → k.2.2.2 13 j = w (27 + j)) → (∀ j, 7 ≤ j → k.2.2.2 13 j = h.2.2.2 13 j) → mF ([38], [], [], [13, 21]) g0 k → Q k) :
    G mX12_passAll (d + 1) SM (f_PV Q) 139 [(0, .ref 1), (1, .int 0)] [] g0 := by
  have key : ∀ (m i : Nat) (g : fH), m + i = 7 → PaI h b w (27 + i) g → (∀ j, j < i → g.2.2.2 13 j = w (27 + j)) → (∀ j, i ≤ j → g.2.2.2 13 j = h.2.2.2 13 j) → mF ([38], [], [], [13, 21]) g0 g → G mX12_passAll (d + 1) SM (f_PV Q) 139 [(0, .ref 1), (1, .int (nI i))] [] g := by
    intro m
    induction m with
    | zero =>
      intro i g hi I a1 a2 fg
      have e : i = 7 := by omega
      subst e
      exact NX12_passAll_139 hM hM13 ⟨fun _ => fin g I a1 a2 fg, fun z => absurd (by decide) z⟩
    | succ m ih =>
      intro i g hi I a1 a2 fg
      have hc : ¬ (7 : Int32) ≤ nI i := nI_ge (a := i) (b := 7) (by omega) (by omega)
      refine NX12_passAll_139 hM hM13 ⟨fun z => absurd z hc, fun _ => ⟨vp_in_nI (by omega) (by decide), ?_⟩⟩
      rw [nI_clamp (by omega), a2 i (Nat.le_refl _), nI1]
      refine ⟨_, s_passI I (by omega) (hw i (by omega)), ?_⟩
      rintro _ k1 ⟨rfl, I1, f1⟩
      rintro k2 rfl
      have e13 : ∀ j, j ≠ i → (u_al k1 13 (vp_updL (k1.2.2.2 13) i (w (27 + i)))).2.2.2 13 j = g.2.2.2 13 j := fun j hj => by
        rw [u_al_s]
        unfold vp_updL
        rw [if_neg hj, f1.2.2.2 13 (by decide)]
      refine ih (i + 1) _ (by omega) (I1.al (by decide) (by decide)) (fun j hj => ?_) (fun j hj => ?_) ((fg.go f1 (by decide)).al (by decide))
      · by_cases c : j = i
        · subst c
          rw [u_al_s]
          unfold vp_updL
          rw [if_pos rfl]
        · rw [e13 j c]; exact a1 j (by omega)
      · rw [e13 j (by omega)]; exact a2 j (by omega)
  exact key 7 0 g0 rfl I0 (fun j hj => by omega) (fun j _ => by rw [t0]) mF.rf
theorem s_passText (hb : b ≤ 40) (hw : ∀ i, i < 13 → w (4 + i) = paF (h.1 1 39) (h.2.2.2 21 (b + (4 + i))) (h.2.2.1 3 i).toInt64) (I0 : PaI h b w 4 g0) (t0 : g0.2.2.1 3 = h.2.2.1 3)
    (fin : ∀ k : fH, PaI h b w 17 k → (∀ j, j < 13 → k.2.2.1 3 j = (w (4 + j)).toInt32) → mF ([38], [], [3], [21]) g0 k → G mX12_passAll (d + 1) SM (f_PV Q) 90 [(0, .ref 1), (1, .int 0)] [] k) :
    G mX12_passAll (d + 1) SM (f_PV Q) 58 [(0, .ref 1), (1, .int 0)] [] g0 := by
  have key : ∀ (m i : Nat) (g : fH), m + i = 13 → PaI h b w (4 + i) g → (∀ j, j < i → g.2.2.1 3 j = (w (4 + j)).toInt32) → (∀ j, i ≤ j → g.2.2.1 3 j = h.2.2.1 3 j) → mF ([38], [], [3], [21]) g0 g → G mX12_passAll (d + 1) SM (f_PV Q) 58 [(0, .ref 1), (1, .int (nI i))] [] g := by
    intro m
    induction m with
    | zero =>
      intro i g hi I a1 a2 fg
      have e : i = 13 := by omega
      subst e
      exact NX12_passAll_58 hM hM3 ⟨fun _ => fin g I a1 fg, fun z => absurd (by decide) z⟩
    | succ m ih =>
      intro i g hi I a1 a2 fg
      have hc : ¬ (13 : Int32) ≤ nI i := nI_ge (a := i) (b := 13) (by omega) (by omega)
      refine NX12_passAll_58 hM hM3 ⟨fun z => absurd z hc, fun _ => ⟨vp_in_nI (by omega) (by decide), ?_⟩⟩
      rw [nI_clamp (by omega), a2 i (Nat.le_refl _), nI1]
      refine ⟨_, s_passI I (by omega) (hw i (by omega)), ?_⟩
      rintro _ k1 ⟨rfl, I1, f1⟩
      rintro k2 rfl
      have e3 : ∀ j, j ≠ i → (u_ai k1 3 (upd (k1.2.2.1 3) i (w (4 + i)).toInt32)).2.2.1 3 j = g.2.2.1 3 j := fun j hj => by
        rw [u_ai_s, upd_n _ _ hj, f1.2.2.1 3 (by decide)]
      refine ih (i + 1) _ (by omega) (I1.ai (by decide)) (fun j hj => ?_) (fun j hj => ?_) ((fg.go f1 (by decide)).ai (by decide))
      · by_cases c : j = i
        · subst c
          rw [u_ai_s, upd_s]
        · rw [e3 j c]; exact a1 j (by omega)
      · rw [e3 j (by omega)]; exact a2 j (by omega)
  exact key 13 0 g0 rfl I0 (fun j hj => by omega) (fun j _ => by rw [t0]) mF.rf
end MPASS3

/-! ===== the reference's passAll ===== -/
section MPASS4
variable {d : Nat} {h g0 : fH} {b : Nat} {w : Nat → Int64} {Q : fH → Prop}
theorem s_passNums (hb : b ≤ 40) (hw : ∀ i, i < 5 → w (17 + 2 * i) = paF (h.1 1 39) (h.2.2.2 21 (b + (17 + 2 * i))) (h.2.2.1 4 i).toInt64 ∧ w (17 + 2 * i + 1) = paF (h.1 1 39) (h.2.2.2 21 (b + (17 + 2 * i + 1))) (h.2.2.1 5 i).toInt64) (I0 : PaI h b w 17 g0) (t0 : g0.2.2.1 4 = h.2.2.1 4) (t1 : g0.2.2.1 5 = h.2.2.1 5)
    (fin : ∀ k : fH, PaI h b w 27 k → (∀ j, j < 5 → k.2.2.1 4 j = (w (17 + 2 * j)).toInt32 ∧ k.2.2.1 5 j = (w (17 + 2 * j + 1)).toInt32) → (∀ j, 5 ≤ j → k.2.2.1 4 j = h.2.2.1 4 j ∧ k.2.2.1 5 j = h.2.2.1 5 j) → mF ([38], [], [4, 5], [21]) g0 k → G mX12_passAll (d + 1) SM (f_PV Q) 139 [(0, .ref 1), (1, .int 0)] [] k) :
    G mX12_passAll (d + 1) SM (f_PV Q) 90 [(0, .ref 1), (1, .int 0)] [] g0 := by
  have key : ∀ (m i : Nat) (g : fH), m + i = 5 → PaI h b w (17 + 2 * i) g → (∀ j, j < i → g.2.2.1 4 j = (w (17 + 2 * j)).toInt32 ∧ g.2.2.1 5 j = (w (17 + 2 * j + 1)).toInt32) → (∀ j, i ≤ j → g.2.2.1 4 j = h.2.2.1 4 j ∧ g.2.2.1 5 j = h.2.2.1 5 j) → mF ([38], [], [4, 5], [21]) g0 g → G mX12_passAll (d + 1) SM (f_PV Q) 90 [(0, .ref 1), (1, .int (nI i))] [] g := by
    intro m
    induction m with
    | zero =>
      intro i g hi I a1 a2 fg
      have e : i = 5 := by omega
      subst e
      exact NX12_passAll_90 hM hM4 hM5 ⟨fun _ => fin g I a1 a2 fg, fun z => absurd (by decide) z⟩
    | succ m ih =>
      intro i g hi I a1 a2 fg
      have hc : ¬ (5 : Int32) ≤ nI i := nI_ge (a := i) (b := 5) (by omega) (by omega)
      refine NX12_passAll_90 hM hM4 hM5 ⟨fun z => absurd z hc, fun _ => ⟨vp_in_nI (by omega) (by decide), ?_⟩⟩
      rw [nI_clamp (by omega), (a2 i (Nat.le_refl _)).1, nI1]
      refine ⟨_, s_passI I (by omega) (hw i (by omega)).1, ?_⟩
      rintro _ k1 ⟨rfl, I1, f1⟩ k2 e2
      have f2 : mF ([38], [], [4], [21]) g k2 := by rw [e2]; exact (f1.mono (by decide)).ai (by decide)
      have I2 : PaI h b w (17 + 2 * i + 1) k2 := by rw [e2]; exact I1.ai (by decide)
      have r2 : k2.2.2.1 4 = upd (g.2.2.1 4) i (w (17 + 2 * i)).toInt32 := by rw [e2, u_ai_s, f1.2.2.1 4 (by decide)]
      have s2 : k2.2.2.1 5 = g.2.2.1 5 := f2.2.2.1 5 (by decide)
      rw [s2, (a2 i (Nat.le_refl _)).2]
      refine ⟨_, s_passI I2 (by omega) (hw i (by omega)).2, ?_⟩
      rintro _ k3 ⟨rfl, I3, f3⟩ k4 e4
      have f4 : mF ([38], [], [4, 5], [21]) g k4 := by rw [e4]; exact ((f2.mono (by decide)).go f3 (by decide)).ai (by decide)
      have I4 : PaI h b w (17 + 2 * i + 1 + 1) k4 := by rw [e4]; exact I3.ai (by decide)
      have r4 : k4.2.2.1 4 = upd (g.2.2.1 4) i (w (17 + 2 * i)).toInt32 := by rw [e4, u_ai_n _ _ (by decide), f3.2.2.1 4 (by decide)]; exact r2
      have s4 : k4.2.2.1 5 = upd (g.2.2.1 5) i (w (17 + 2 * i + 1)).toInt32 := by rw [e4, u_ai_s, f3.2.2.1 5 (by decide), s2]
      refine ih (i + 1) k4 (by omega) I4 (fun j hj => ?_) (fun j hj => ?_) (fg.tr f4)
      · rw [r4, s4]
        by_cases c : j = i
        · subst c
          rw [upd_s, upd_s]
          exact ⟨rfl, rfl⟩
        · rw [upd_n _ _ c, upd_n _ _ c]
          exact a1 j (by omega)
      · rw [r4, s4, upd_n _ _ (by omega), upd_n _ _ (by omega)]
        exact a2 j (by omega)
  exact key 5 0 g0 rfl I0 (fun j hj => by omega) (fun j _ => by rw [t0, t1]; exact ⟨rfl, rfl⟩) mF.rf
end MPASS4

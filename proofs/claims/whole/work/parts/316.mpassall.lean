/-! ===== the reference's passAll, whole ===== -/
section MPASS5
variable {d : Nat} {h : fH} {b : Nat} {w : Nat → Int64}
/-- what was passed lies in its places -/
def PaQ (h : fH) (b : Nat) (w : Nat → Int64) (k : fH) : Prop :=
  (k.1 1 0 = (w 0).toInt32 ∧ k.1 1 1 = (w 1).toInt32 ∧ k.1 1 10 = (w 2).toInt32 ∧ k.1 1 22 = (w 3).toInt32) ∧ (∀ j, j < 13 → k.2.2.1 3 j = (w (4 + j)).toInt32) ∧
  (∀ j, j < 5 → k.2.2.1 4 j = (w (17 + 2 * j)).toInt32 ∧ k.2.2.1 5 j = (w (17 + 2 * j + 1)).toInt32) ∧ (∀ j, 5 ≤ j → k.2.2.1 4 j = h.2.2.1 4 j ∧ k.2.2.1 5 j = h.2.2.1 5 j) ∧
  (∀ j, j < 7 → k.2.2.2 13 j = w (27 + j)) ∧ (∀ j, 7 ≤ j → k.2.2.2 13 j = h.2.2.2 13 j) ∧ PaI h b w 34 k
/-- what the reference passes -/
def PaW (h : fH) (b : Nat) (w : Nat → Int64) : Prop :=
  (w 0 = paF (h.1 1 39) (h.2.2.2 21 (b + 0)) (h.1 1 0).toInt64 ∧ w 1 = paF (h.1 1 39) (h.2.2.2 21 (b + 1)) (h.1 1 1).toInt64 ∧ w 2 = paF (h.1 1 39) (h.2.2.2 21 (b + 2)) (h.1 1 10).toInt64 ∧ w 3 = paF (h.1 1 39) (h.2.2.2 21 (b + 3)) (h.1 1 22).toInt64) ∧
  (∀ i, i < 13 → w (4 + i) = paF (h.1 1 39) (h.2.2.2 21 (b + (4 + i))) (h.2.2.1 3 i).toInt64) ∧
  (∀ i, i < 5 → w (17 + 2 * i) = paF (h.1 1 39) (h.2.2.2 21 (b + (17 + 2 * i))) (h.2.2.1 4 i).toInt64 ∧ w (17 + 2 * i + 1) = paF (h.1 1 39) (h.2.2.2 21 (b + (17 + 2 * i + 1))) (h.2.2.1 5 i).toInt64) ∧
  (∀ i, i < 7 → w (27 + i) = paF (h.1 1 39) (h.2.2.2 21 (b + (27 + i))) (h.2.2.2 13 i))
theorem s_passAll (hb : b ≤ 40) (hp : h.1 1 38 = nI b) (W : PaW h b w) : OkV (d + 1) mX12_passAll SM [.ref 1] h (fun k => PaQ h b w k) := by
  obtain ⟨⟨w0, w1, w2, w3⟩, wt, wn, wk⟩ := W
  have I0 : PaI h b w 0 h := ⟨hp, fun q _ => rfl, fun q hq => by omega, mF.rf⟩
  refine NX12_passAll_0 hM ⟨_, s_passI I0 (by omega) w0, ?_⟩
  rintro _ k1 ⟨rfl, I1, f1⟩ g1 e1
  have J1 : PaI h b w 1 g1 := by rw [e1]; exact I1.fi (by decide) (by decide)
  have F1 : mF ([0, 38], [], [], [21]) h g1 := by rw [e1]; exact (f1.mono (by decide)).fi (by decide)
  have r1 : g1.1 1 0 = (w 0).toInt32 := by rw [e1, u_fi_s]
  rw [F1.1 1 (by decide)]
  refine ⟨_, s_passI J1 (by omega) w1, ?_⟩
  rintro _ k2 ⟨rfl, I2, f2⟩ g2 e2
  have J2 : PaI h b w 2 g2 := by rw [e2]; exact I2.fi (by decide) (by decide)
  have H2 : mF ([1, 38], [], [], [21]) g1 g2 := by rw [e2]; exact (f2.mono (by decide)).fi (by decide)
  have F2 : mF ([0, 1, 38], [], [], [21]) h g2 := (F1.mono (by decide)).go H2 (by decide)
  have r2 : g2.1 1 1 = (w 1).toInt32 := by rw [e2, u_fi_s]
  rw [F2.1 10 (by decide)]
  refine ⟨_, s_passI J2 (by omega) w2, ?_⟩
  rintro _ k3 ⟨rfl, I3, f3⟩ g3 e3
  have J3 : PaI h b w 3 g3 := by rw [e3]; exact I3.fi (by decide) (by decide)
  have H3 : mF ([10, 38], [], [], [21]) g2 g3 := by rw [e3]; exact (f3.mono (by decide)).fi (by decide)
  have F3 : mF ([0, 1, 10, 38], [], [], [21]) h g3 := (F2.mono (by decide)).go H3 (by decide)
  have r3 : g3.1 1 10 = (w 2).toInt32 := by rw [e3, u_fi_s]
  rw [F3.1 22 (by decide)]
  refine ⟨_, s_passI J3 (by omega) w3, ?_⟩
  rintro _ k4 ⟨rfl, I4, f4⟩ g4 e4
  have J4 : PaI h b w 4 g4 := by rw [e4]; exact I4.fi (by decide) (by decide)
  have H4 : mF ([22, 38], [], [], [21]) g3 g4 := by rw [e4]; exact (f4.mono (by decide)).fi (by decide)
  have F4 : mF ([0, 1, 10, 22, 38], [], [], [21]) h g4 := (F3.mono (by decide)).go H4 (by decide)
  have r4 : g4.1 1 22 = (w 3).toInt32 := by rw [e4, u_fi_s]
  refine s_passText hb wt J4 (F4.2.2.1 3 (by decide)) (fun k5 I5 a5 f5 => ?_)
  have F5 : mF ([0, 1, 10, 22, 38], [], [3], [21]) h k5 := (F4.mono (by decide)).go f5 (by decide)
  refine s_passNums hb wn I5 (F5.2.2.1 4 (by decide)) (F5.2.2.1 5 (by decide)) (fun k6 I6 a6 b6 f6 => ?_)
  have F6 : mF ([0, 1, 10, 22, 38], [], [3, 4, 5], [21]) h k6 := (F5.mono (by decide)).go f6 (by decide)
  refine s_passTerms hb wk I6 (F6.2.2.2 13 (by decide)) (fun k7 I7 a7 b7 f7 => ?_)
  refine ⟨⟨?_, ?_, ?_, ?_⟩, fun j hj => ?_, fun j hj => ?_, fun j hj => ?_, a7, b7, I7⟩
  · rw [f7.1 0 (by decide), f6.1 0 (by decide), f5.1 0 (by decide), H4.1 0 (by decide), H3.1 0 (by decide), H2.1 0 (by decide)]; exact r1
  · rw [f7.1 1 (by decide), f6.1 1 (by decide), f5.1 1 (by decide), H4.1 1 (by decide), H3.1 1 (by decide)]; exact r2
  · rw [f7.1 10 (by decide), f6.1 10 (by decide), f5.1 10 (by decide), H4.1 10 (by decide)]; exact r3
  · rw [f7.1 22 (by decide), f6.1 22 (by decide), f5.1 22 (by decide)]; exact r4
  · rw [f7.2.2.1 3 (by decide), f6.2.2.1 3 (by decide)]; exact a5 j hj
  · rw [f7.2.2.1 4 (by decide), f7.2.2.1 5 (by decide)]; exact a6 j hj
  · rw [f7.2.2.1 4 (by decide), f7.2.2.1 5 (by decide)]; exact b6 j hj
end MPASS5

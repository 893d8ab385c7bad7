/-! ===== the face: forgetFindings ===== -/
section FACE
variable {d : Nat} {h : fH}
theorem s_forget : OkV d mX11_forgetFindings SC [.ref 1] h (fun k => (k.1 42 6 = 0 ∧ k.1 54 10 = 0 ∧ k.1 65 5 = -6) ∧ k.2 = h.2 ∧ fOff [42, 54, 65] h k) := by
  refine NX11_forgetFindings_0 hC1 hC42 hC54 hC65 ?_
  intro g1 e1 g2 e2 g3 e3
  refine ⟨⟨?_, ?_, ?_⟩, by rw [e3, e2, e1]; rfl, ?_⟩
  · rw [e3, u_fi_o _ _ _ (by decide), e2, u_fi_o _ _ _ (by decide), e1, u_fi_s]
  · rw [e3, u_fi_o _ _ _ (by decide), e2, u_fi_s]
  · rw [e3, u_fi_s]
  · rw [e3, e2, e1]
    exact ((fOff.rf.of (f_off_fi _ _ _ _) (by simp)).of (f_off_fi _ _ _ _) (by simp)).of (f_off_fi _ _ _ _) (by simp)
end FACE

/-! ===== the reference's pass ===== -/
section MPASS
variable {d : Nat} {h : fH}
theorem updL_row (h : fH) (r i : Nat) (x : Int64) : (u_al h r (vp_updL (h.2.2.2 r) i x)).2.2.2 r = vp_updL (h.2.2.2 r) i x := u_al_s _ _ _
/-- what is passed: in (m = 0: out of what was kept), and kept -/
def paF (m : Int32) (y x : Int64) : Int64 := if m = 0 then y else x
theorem s_pass {x : Int64} {i : Nat} (hp : h.1 1 38 = nI i) (hi : i < 80) :
    OkL d mX12_pass SM [.ref 1, .long x] h (fun v k => v = paF (h.1 1 39) (h.2.2.2 21 i) x ∧ k.1 1 38 = nI (i + 1) ∧ k.2.2.2 21 = vp_updL (h.2.2.2 21) i (paF (h.1 1 39) (h.2.2.2 21 i) x) ∧ mF ([38], [], [], [21]) h k) := by
  have hc : (h.1 1 38).toNatClampNeg = i := by rw [hp]; exact nI_clamp (by omega)
  have hv : vp_in (h.1 1 38) 80 := by rw [hp]; exact vp_in_nI (by omega) (by decide)
  refine NX12_pass_0 hM hM21 ⟨fun z => ⟨hv, ?_⟩, fun z => ⟨hv, ?_⟩⟩
  · rw [hc]
    intro g1 e1 g2 e2
    have ep : paF (h.1 1 39) (h.2.2.2 21 i) x = h.2.2.2 21 i := by unfold paF; rw [if_pos z]
    rw [ep]
    refine ⟨rfl, ?_, ?_, ?_⟩
    · rw [e2, u_fi_s, e1, u_al_1, hp, nI1]
    · rw [e2, u_fi_2, e1, u_al_s]
    · rw [e2, e1]
      exact (mF.rf.al (by decide)).fi (by decide)
  · rw [hc]
    intro g1 e1 g2 e2
    have ep : paF (h.1 1 39) (h.2.2.2 21 i) x = x := by unfold paF; rw [if_neg z]
    rw [ep]
    refine ⟨rfl, ?_, ?_, ?_⟩
    · rw [e2, u_fi_s, e1, u_al_1, hp, nI1]
    · rw [e2, u_fi_2, e1, u_al_s]
    · rw [e2, e1]
      exact (mF.rf.al (by decide)).fi (by decide)
end MPASS

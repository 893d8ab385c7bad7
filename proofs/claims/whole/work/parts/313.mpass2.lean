/-! ===== the reference's pass, one after another ===== -/
abbrev fPa : fL := ([0, 1, 10, 22, 38], [], [3, 4, 5], [13, 21])
/-- j values are passed: w; kept from b on -/
def PaI (h : fH) (b : Nat) (w : Nat → Int64) (j : Nat) (g : fH) : Prop :=
  g.1 1 38 = nI (b + j) ∧ (∀ q, ¬ (b ≤ q ∧ q < b + j) → g.2.2.2 21 q = h.2.2.2 21 q) ∧ (∀ q, q < j → g.2.2.2 21 (b + q) = w q) ∧ mF fPa h g
section MPASS2
variable {d : Nat} {h g : fH} {b j : Nat} {w : Nat → Int64}
theorem PaI.fi {r : Nat} {v : Int32} (x : PaI h b w j g) (hr : r ∈ fPa.1) (hn : 38 ≠ r) : PaI h b w j (u_fi g 1 r v) :=
  ⟨by rw [u_fi_n _ _ hn]; exact x.1, x.2.1, x.2.2.1, x.2.2.2.fi hr⟩
theorem PaI.ai {r : Nat} {f : Nat → Int32} (x : PaI h b w j g) (hr : r ∈ fPa.2.2.1) : PaI h b w j (u_ai g r f) :=
  ⟨x.1, x.2.1, x.2.2.1, x.2.2.2.ai hr⟩
theorem PaI.al {r : Nat} {f : Nat → Int64} (x : PaI h b w j g) (hr : r ∈ fPa.2.2.2) (hn : 21 ≠ r) : PaI h b w j (u_al g r f) :=
  ⟨x.1, fun q hq => by rw [u_al_n _ _ hn]; exact x.2.1 q hq, fun q hq => by rw [u_al_n _ _ hn]; exact x.2.2.1 q hq, x.2.2.2.al hr⟩
theorem s_passI {x : Int64} (I : PaI h b w j g) (hb : b + j < 80) (hw : w j = paF (h.1 1 39) (h.2.2.2 21 (b + j)) x) :
    OkL d mX12_pass SM [.ref 1, .long x] g (fun v k => v = w j ∧ PaI h b w (j + 1) k ∧ mF ([38], [], [], [21]) g k) := by
  obtain ⟨i1, i2, i3, i4⟩ := I
  have e39 : g.1 1 39 = h.1 1 39 := i4.1 39 (by decide)
  have ek : g.2.2.2 21 (b + j) = h.2.2.2 21 (b + j) := i2 _ (by omega)
  refine Ok.post (s_pass (x := x) i1 hb) ?_
  rintro r k ⟨v, rfl, rfl, k1, k2, k3⟩
  rw [e39, ek, ← hw] at k2 ⊢
  refine ⟨_, rfl, rfl, ⟨by rw [k1, Nat.add_assoc], fun q hq => ?_, fun q hq => ?_, i4.go k3 (by decide)⟩, k3⟩
  · rw [k2]
    unfold vp_updL
    rw [if_neg (by omega)]
    exact i2 q (by omega)
  · rw [k2]
    unfold vp_updL
    by_cases c : q = j
    · rw [if_pos (by omega), c]
    · rw [if_neg (by omega)]
      exact i3 q (by omega)
end MPASS2

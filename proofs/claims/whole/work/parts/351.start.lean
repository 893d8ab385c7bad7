/-! ===== what the law's start gives ===== -/
section START
variable {s : State} {args : Array Value}
theorem f_of_lw (hts : ∀ w ∈ lw_tbl, w.before args s = true) : ∀ w ∈ f_tbl, w.before args s = true := fun w hw => hts w (List.mem_filter.mp hw).1
theorem ao_spec (h : (Cond.arrayOver (.array .int)).before args s = true) : ∃ (c3 c0 : ClassId) (k : Class), s.vm.findClass (FieldType.array .int).toString = some c0 ∧ s.vm.classes[c3]? = some k ∧ k.kind = .array c0 (.array .int) ∧ s.vm.findClass ("[" ++ (FieldType.array .int).toString) = some c3 := by
  simp only [Cond.before, Cond.holds, Cond.value, beq_iff_eq] at h
  cases hc : s.vm.findClass (FieldType.array .int).toString with
  | none => simp [hc] at h
  | some c0 =>
    simp only [hc, Option.bind_some, Option.bind_eq_some_iff, Option.map_eq_some_iff] at h
    obtain ⟨c3, hi, k, hk, hb⟩ := h
    obtain ⟨hlt, hp, -⟩ := Array.findIdx?_eq_some_iff_getElem.mp hi
    have hkk : s.vm.classes[c3] = k := (Array.getElem?_eq_some_iff.mp hk).2
    rw [hkk] at hp
    cases hkind : k.kind with
    | array component ty =>
      rw [hkind] at hb hp
      simp at hb hp
      exact ⟨c3, c0, k, rfl, hk, by rw [hkind, hp, hb.1], hb.2⟩
    | _ => rw [hkind] at hb; simp at hb
theorem st_K (hts : ∀ w ∈ lw_tbl, w.before args s = true) : ∃ (D : va_G) (cA : Nat → ClassId), va_K D f_cl (f_tys cA) s ∧ f_ao cA s := by
  have ft := f_of_lw hts
  obtain ⟨c0, i0, k0⟩ := u_known (C := RX0) (T := TX0) (N := 2) (n := 2) ft inX0 (ft _ (f_t 168 (by decide +kernel) rfl))
  obtain ⟨c1, i1, k1⟩ := u_known (C := RX1) (T := TX1) (N := 7) (n := 7) ft inX1 (ft _ (f_t 234 (by decide +kernel) rfl))
  obtain ⟨c2, i2, k2⟩ := u_known (C := RX2) (T := TX2) (N := 8) (n := 8) ft inX2 (ft _ (f_t 25 (by decide +kernel) rfl))
  obtain ⟨c3, i3, k3⟩ := u_known (C := RX3) (T := TX3) (N := 3) (n := 3) ft inX3 (ft _ (f_t 126 (by decide +kernel) rfl))
  obtain ⟨c4, i4, k4⟩ := u_known (C := RX4) (T := TX4) (N := 3) (n := 3) ft inX4 (ft _ (f_t 145 (by decide +kernel) rfl))
  obtain ⟨c5, i5, k5⟩ := u_known (C := RX6) (T := TX6) (N := 6) (n := 6) ft inX6 (ft _ (f_t 322 (by decide +kernel) rfl))
  obtain ⟨c6, i6, k6⟩ := u_known (C := RX7) (T := TX7) (N := 11) (n := 11) ft inX7 (ft _ (f_t 270 (by decide +kernel) rfl))
  obtain ⟨c7, i7, k7⟩ := u_known (C := RX8) (T := TX8) (N := 5) (n := 5) ft inX8 (ft _ (f_t 162 (by decide +kernel) rfl))
  obtain ⟨c8, i8, k8⟩ := u_known (C := RX9) (T := TX9) (N := 5) (n := 5) ft inX9 (ft _ (f_t 206 (by decide +kernel) rfl))
  obtain ⟨c9, i9, k9⟩ := u_known (C := RX10) (T := TX10) (N := 4) (n := 4) ft inX10 (ft _ (f_t 31 (by decide +kernel) rfl))
  obtain ⟨c10, i10, k10⟩ := u_known (C := RX11) (T := TX11) (N := 12) (n := 12) ft inX11 (ft _ (f_t 17 (by decide +kernel) rfl))
  obtain ⟨c11, i11, k11⟩ := u_known (C := RX12) (T := TX12) (N := 40) (n := 40) ft inX12 (ft _ (f_t 838 (by decide +kernel) rfl))
  obtain ⟨a0, q0, m0, f0, g0, e0⟩ := Cond.arrayClass_spec (ft (Cond.arrayClass .int) (f_t 78 (by decide +kernel) rfl))
  obtain ⟨a1, q1, m1, f1, g1, e1⟩ := Cond.arrayClass_spec (ft (Cond.arrayClass .long) (f_t 124 (by decide +kernel) rfl))
  obtain ⟨a2, q2, m2, f2, g2, e2⟩ := Cond.arrayClass_spec (ft (Cond.arrayClass .boolean) (f_t 964 (by decide +kernel) rfl))
  obtain ⟨a3, b0, q3, f3, g3, e3, n3⟩ := ao_spec (hts (Cond.arrayOver (.array .int)) (List.mem_append_right _ (List.mem_of_getElem? (i := 242) (by decide +kernel))))
  have eb : b0 = a0 := Option.some.inj (f3.symm.trans f0)
  subst eb
  let dC : Nat → ClassId := fun k => [c0, c1, c2, c3, c4, c5, c6, c7, c8, c9, c10, c11].getD k c0
  let dI : Nat → Nat → Nat := fun k => [i0, i1, i2, i3, i4, i5, i6, i7, i8, i9, i10, i11].getD k i0
  let cA : Nat → ClassId := fun k => [b0, a1, a2, a3].getD k b0
  refine ⟨(dC, dI), cA, ⟨fun k q hq => ?_, fun k q hq => ?_⟩, q3, g3, e3⟩
  · have hk : k < 12 := (List.getElem?_eq_some_iff.mp hq).1
    match k, hq, hk with
    | 0, hq, _ => cases hq; exact k0
    | 1, hq, _ => cases hq; exact k1
    | 2, hq, _ => cases hq; exact k2
    | 3, hq, _ => cases hq; exact k3
    | 4, hq, _ => cases hq; exact k4
    | 5, hq, _ => cases hq; exact k5
    | 6, hq, _ => cases hq; exact k6
    | 7, hq, _ => cases hq; exact k7
    | 8, hq, _ => cases hq; exact k8
    | 9, hq, _ => cases hq; exact k9
    | 10, hq, _ => cases hq; exact k10
    | 11, hq, _ => cases hq; exact k11
  · have hk : k < 4 := (List.getElem?_eq_some_iff.mp hq).1
    match k, hq, hk with
    | 0, hq, _ => cases hq; exact ⟨fun n z => ⟨fun k h => (by cases h), q0, g0, m0, e0⟩, f0⟩
    | 1, hq, _ => cases hq; exact ⟨fun n z => ⟨fun k h => (by cases h), q1, g1, m1, e1⟩, f1⟩
    | 2, hq, _ => cases hq; exact ⟨fun n z => ⟨fun k h => (by cases h), q2, g2, m2, e2⟩, f2⟩
    | 3, hq, _ => cases hq; exact ⟨fun n z => ⟨fun k h => (by cases h), q3, g3, b0, e3⟩, n3⟩
theorem st_sg (hts : ∀ w ∈ lw_tbl, w.before args s = true) (hgv : (Jvm.Cond.and given_1 narrow_1).before args s = true) : ∃ a0 : Nat, ∀ A : Nat → Prop, (∀ a : Nat, a < s.heap.size → ¬ A a) → f_sg (fun _ => a0) A s s.heap := by
  have hs := flat_of_before _ hgv
  have ft := f_of_lw hts
  have harr : (Cond.arrayOf (.static "LostDigits" "TENS" "[J") .long).before args s = true := hs _ (by decide +kernel)
  have hlen := va_eqt (hs (Cond.eq (.length (.static "LostDigits" "TENS" "[J")) (.int 19)) (by decide +kernel))
  have hel : ∀ j : Nat, j < 19 → (Term.elem (.static "LostDigits" "TENS" "[J") (.int (Int32.ofNat j))).eval args s none [] s = some (.long (f_ten j)) := by
    intro j hj
    match j, hj with
    | 0, _ => exact va_eqtl (hs (Cond.eq (.elem (.static "LostDigits" "TENS" "[J") (.int 0)) (.long 1)) (by decide +kernel))
    | 1, _ => exact va_eqtl (hs (Cond.eq (.elem (.static "LostDigits" "TENS" "[J") (.int 1)) (.long 10)) (by decide +kernel))
    | 2, _ => exact va_eqtl (hs (Cond.eq (.elem (.static "LostDigits" "TENS" "[J") (.int 2)) (.long 100)) (by decide +kernel))
    | 3, _ => exact va_eqtl (hs (Cond.eq (.elem (.static "LostDigits" "TENS" "[J") (.int 3)) (.long 1000)) (by decide +kernel))
    | 4, _ => exact va_eqtl (hs (Cond.eq (.elem (.static "LostDigits" "TENS" "[J") (.int 4)) (.long 10000)) (by decide +kernel))
    | 5, _ => exact va_eqtl (hs (Cond.eq (.elem (.static "LostDigits" "TENS" "[J") (.int 5)) (.long 100000)) (by decide +kernel))
    | 6, _ => exact va_eqtl (hs (Cond.eq (.elem (.static "LostDigits" "TENS" "[J") (.int 6)) (.long 1000000)) (by decide +kernel))
    | 7, _ => exact va_eqtl (hs (Cond.eq (.elem (.static "LostDigits" "TENS" "[J") (.int 7)) (.long 10000000)) (by decide +kernel))
    | 8, _ => exact va_eqtl (hs (Cond.eq (.elem (.static "LostDigits" "TENS" "[J") (.int 8)) (.long 100000000)) (by decide +kernel))
    | 9, _ => exact va_eqtl (hs (Cond.eq (.elem (.static "LostDigits" "TENS" "[J") (.int 9)) (.long 1000000000)) (by decide +kernel))
    | 10, _ => exact va_eqtl (hs (Cond.eq (.elem (.static "LostDigits" "TENS" "[J") (.int 10)) (.long 10000000000)) (by decide +kernel))
    | 11, _ => exact va_eqtl (hs (Cond.eq (.elem (.static "LostDigits" "TENS" "[J") (.int 11)) (.long 100000000000)) (by decide +kernel))
    | 12, _ => exact va_eqtl (hs (Cond.eq (.elem (.static "LostDigits" "TENS" "[J") (.int 12)) (.long 1000000000000)) (by decide +kernel))
    | 13, _ => exact va_eqtl (hs (Cond.eq (.elem (.static "LostDigits" "TENS" "[J") (.int 13)) (.long 10000000000000)) (by decide +kernel))
    | 14, _ => exact va_eqtl (hs (Cond.eq (.elem (.static "LostDigits" "TENS" "[J") (.int 14)) (.long 100000000000000)) (by decide +kernel))
    | 15, _ => exact va_eqtl (hs (Cond.eq (.elem (.static "LostDigits" "TENS" "[J") (.int 15)) (.long 1000000000000000)) (by decide +kernel))
    | 16, _ => exact va_eqtl (hs (Cond.eq (.elem (.static "LostDigits" "TENS" "[J") (.int 16)) (.long 10000000000000000)) (by decide +kernel))
    | 17, _ => exact va_eqtl (hs (Cond.eq (.elem (.static "LostDigits" "TENS" "[J") (.int 17)) (.long 100000000000000000)) (by decide +kernel))
    | 18, _ => exact va_eqtl (hs (Cond.eq (.elem (.static "LostDigits" "TENS" "[J") (.int 18)) (.long 1000000000000000000)) (by decide +kernel))
    | j + 19, hj => omega
  obtain ⟨t, ht, -⟩ := va_Tof (A := fun q => s.heap.size ≤ q) (N := 19) (f := fun j => .long (f_ten j)) (by decide) harr hlen hel (fun a ha => Nat.not_le.mpr ha)
  refine ⟨t, fun A hA => ?_⟩
  obtain ⟨t2, ht2, hT⟩ := va_Tof (A := A) (N := 19) (f := fun j => .long (f_ten j)) (by decide) harr hlen hel hA
  cases ht.symm.trans ht2
  refine ⟨va_Zref (hts _ (List.mem_append_right _ (List.mem_of_getElem? (i := 434) (by decide +kernel)))) (ft _ hN_X11) ht hA, hT, fun w hw => ?_⟩
  exact va_tabs (f_isN_tab (f_nst_isN w hw)) rfl (hts w (f_nst_in w hw))
end START

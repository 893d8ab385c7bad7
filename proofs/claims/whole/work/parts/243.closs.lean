/-! ===== the class's Steps.lossOf ===== -/
section CLOSS
variable {d : Nat} {S : fW} {h : fH} {r a b c nr st v s fr ro ra u l n D W : Nat} {t f : Nat → Int32}
theorem s_lossOf (T : TxS S r a b c) (x : TxOk h r a b c t n) (hv : TxV t n) (X : StS S st v s fr ro ra) (F : FrS S fr u l) (hnr : (nr, shI 5) ∈ S) (nd : [v, s, ra, ro, u, l, r, a, b, c, nr].Nodup)
    (hD : h.1 ro 0 = nI D) (hD1 : 1 ≤ D) (hD4 : D ≤ 4) (hW : h.1 ro 1 = nI W) (hW3 : W ≤ 3) (hT : h.1 ro 2 = bI false) (hf : h.2.2.1 nr = f) (hfB : nmB f) :
    OkL (d + 4) mX8_lossOf S [.ref st, .ref r, .ref nr] h (fun y k => y = loF D W f t n ∧ fOff [v, s, ra, u, l] h k) := by
  have hpos := hv.pos
  have nd1 : [v, s, ra, ro, r, a, b, c, nr].Nodup := nd.sublist (.cons₂ _ (.cons₂ _ (.cons₂ _ (.cons₂ _ (.cons _ (.cons _ (List.Sublist.refl _)))))))
  have nd2 : [u, l, r, a, b, c, nr].Nodup := nd.sublist (.cons _ (.cons _ (.cons _ (.cons _ (List.Sublist.refl _)))))
  have nd3 := nd
  simp only [List.nodup_cons, List.mem_cons, List.not_mem_nil, or_false, not_or] at nd3
  obtain ⟨⟨nvs, nvra, nvro, nvu, nvl, nvr, nva, nvb, nvc, nvn⟩, ⟨nsra, nsro, nsu, nsl, nsr, nsa, nsb, nsc, nsn⟩, ⟨nraro, nrau, nral, nrar, nraa, nrab, nrac, nran⟩, _⟩ := nd3
  refine NX8_lossOf_0 X.1 X.2.1 F.1 ⟨_, s_work (d := d) T x hv X hnr nd1 hD hD1 hD4 hW hW3 hT hf hfB, ?_⟩
  rintro k1 ⟨hw, hk1⟩
  refine ⟨vp_in_nI (n := 0) (by decide) (by decide), ?_⟩
  have e0 : k1.2.2.2 v (0 : Int32).toNatClampNeg = wkF D W f t n 0 := (hw 0 hpos).1
  have nin : ∀ y, y ≠ v → y ≠ s → y ≠ ra → y ∉ [v, s, ra] := fun y h1 h2 h3 => by simp [h1, h2, h3]
  have x1 := x.off hk1 (nin r (Ne.symm nvr) (Ne.symm nsr) (Ne.symm nrar)) (nin a (Ne.symm nva) (Ne.symm nsa) (Ne.symm nraa)) (nin b (Ne.symm nvb) (Ne.symm nsb) (Ne.symm nrab)) (nin c (Ne.symm nvc) (Ne.symm nsc) (Ne.symm nrac))
  have onr := hk1 nr (nin nr (Ne.symm nvn) (Ne.symm nsn) (Ne.symm nran))
  rw [e0]
  refine ⟨fun z => ⟨_, s_workAll (d := d + 1) T x1 hv F hnr nd2 (by rw [onr.2.2.1]; exact hf) hfB, ?_⟩, fun z => ⟨?_, hk1.mono (by simp)⟩⟩
  · rintro k2 ⟨hx, hk2⟩
    have sr := frC_small hv hfB hpos
    have hk : fOff [v, s, ra, u, l] h k2 := (hk1.mono (by simp)).tr (hk2.mono (by simp))
    refine ⟨_, s_billionths (j := 0) (e := -1) F (by decide) (hx 0 hpos).1 (hx 0 hpos).2 sr.1 sr.2.1 sr.2.2 (by decide) (by decide), ?_⟩
    rintro _ k2 ⟨rfl, rfl⟩
    have e2 : k2.2.2.2 v (0 : Int32).toNatClampNeg = wkF D W f t n 0 := by
      rw [(hk2 v (by simp [nvu, nvl])).2.2.2]; exact e0
    rw [e2]
    refine ⟨fun y => ⟨?_, hk⟩, fun y => ⟨?_, hk⟩⟩
    · unfold loF lessF; rw [if_neg (by simp [z, y])]
    · unfold loF lessF; rw [if_pos (Or.inr y)]
  · unfold loF lessF; rw [if_pos (Or.inl z)]
end CLOSS

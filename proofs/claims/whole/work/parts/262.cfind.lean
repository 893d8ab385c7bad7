/-! ===== the class: Sums.take, Orders.find ===== -/
def PgT (h : fH) (pg pt D W : Nat) (T : Nat → Int64) (n : Nat) : Prop := ((h.1 pg 5 = nI D ∧ h.1 pg 6 = nI W) ∧ h.1 pg 4 = nI n ∧ ∀ j, j < n → h.2.2.2 pt j = T j) ∧ n ≤ 7 ∧ (∀ j, j < n → dcm (T j)) ∧ 1 ≤ D ∧ D ≤ 4 ∧ W ≤ 3
theorem PgT.off {h k : fH} {pg pt D W n : Nat} {T : Nat → Int64} {L : List Nat} (x : PgT h pg pt D W T n) (o : fOff L h k) (h1 : pg ∉ L) (h2 : pt ∉ L) : PgT k pg pt D W T n := by
  obtain ⟨⟨⟨a1, a2⟩, a3, a4⟩, a5⟩ := x
  exact ⟨⟨⟨by rw [(o pg h1).1]; exact a1, by rw [(o pg h1).1]; exact a2⟩, by rw [(o pg h1).1]; exact a3, fun j hj => by rw [(o pt h2).2.2.2]; exact a4 j hj⟩, a5⟩
/-- the nearest and the farthest orders -/
def orG (D W : Nat) (T : Nat → Int64) (n most : Nat) : oA := if n = 0 then (0, 0, []) else orF D W T n most
section CFIND
variable {d : Nat} {S : fW} {h : fH} {ob su ra ro te si path lo co fi f0 f1 pg pt D W n t0 nu sp : Nat} {gf : Nat → Nat} {T : Nat → Int64}
theorem s_turn {r : Nat} {a b : Int32} (hr : (r, shX4) ∈ S) : OkV d mX4_turn S [.ref r, .int a, .int b] h (fun k => k = u_fi (u_fi h r 0 a) r 1 b) := by
  refine NX4_turn_0 hr ?_
  rintro g1 rfl g2 rfl
  rfl
theorem u_fi_o (h : fH) {r a : Nat} (k : Nat) (v : Int32) (ha : a ≠ r) : (u_fi h r k v).1 a = h.1 a := by simp [u_fi, ha]
theorem u_fl_o (h : fH) {r a : Nat} (k : Nat) (v : Int64) (ha : a ≠ r) : (u_fl h r k v).2.1 a = h.2.1 a := by simp [u_fl, ha]
theorem s_take (X : SuS S su ra ro te si) (P : (pg, shX2 t0 nu sp pt) ∈ S ∧ (pt, shJ 7) ∈ S) (nd : [su, ra, ro, te, si, pg, pt].Nodup) (x : PgT h pg pt D W T n) (hT : h.1 ro 2 = bI false) :
    OkV (d + 1) mX9_take S [.ref su, .ref pg] h (fun k => SuOk k su ro te D W T n ∧ fOff [su, ro, te] h k) := by
  obtain ⟨⟨⟨a1, a2⟩, a3, a4⟩, a5, a6, a7⟩ := x
  refine NX9_take_0 X.1.1 P.1 X.1.2.2.1 P.2 X.1.2.2.2.1 ⟨_, s_turn X.1.2.2.1, ?_⟩
  rintro _ rfl g1 rfl g2 rfl
  have n1 : pg ≠ ro := nd_ne nd 5 2 rfl rfl (by decide)
  have n2 : ro ≠ su := nd_ne nd 2 0 rfl rfl (by decide)
  have ec : (u_al (u_fi (u_fi h ro 0 (h.1 pg 5)) ro 1 (h.1 pg 6)) te (va_cpy ((u_fi (u_fi h ro 0 (h.1 pg 5)) ro 1 (h.1 pg 6)).2.2.2 pt) ((u_fi (u_fi h ro 0 (h.1 pg 5)) ro 1 (h.1 pg 6)).2.2.2 te) 0 0 7)).1 pg 4 = nI n := by
    rw [u_al_1, u_fi_o _ _ _ n1, u_fi_o _ _ _ n1]; exact a3
  rw [ec]
  have hcnt : (if 0 < (if 7 < nI n then 7 else nI n) then (if 7 < nI n then 7 else nI n) else (0 : Int32)) = nI n := by
    have h1 : ¬ (7 : Int32) < nI n := nI_nlt (a := 7) (by omega) (by decide)
    rw [if_neg h1]
    rcases Nat.eq_zero_or_pos n with z | z
    · subst z; decide
    · rw [if_pos]
      exact nI_lt (a := 0) z (by omega)
  rw [hcnt]
  refine ⟨⟨⟨?_, ?_, ?_⟩, ⟨?_, a5, fun j hj => ?_⟩, a6, a7⟩, ?_⟩
  · rw [u_fi_o _ _ _ n2, u_al_1, u_fi_n _ _ (by decide), u_fi_s]; exact a1
  · rw [u_fi_o _ _ _ n2, u_al_1, u_fi_s]; exact a2
  · rw [u_fi_o _ _ _ n2, u_al_1, u_fi_n _ _ (by decide), u_fi_n _ _ (by decide)]; exact hT
  · rw [u_fi_s]
  · show (u_al (u_fi (u_fi h ro 0 (h.1 pg 5)) ro 1 (h.1 pg 6)) te _).2.2.2 te j = T j
    rw [u_al_s, pk_cpy_in (by omega) (by omega)]
    show h.2.2.2 pt (0 + (j - 0)) = T j
    rw [Nat.zero_add, Nat.sub_zero]
    exact a4 j hj
  · exact (((fOff.rf.of (f_off_fi _ _ _ _) (by simp)).of (f_off_fi _ _ _ _) (by simp)).of (f_off_al _ _ _) (by simp)).of (f_off_fi _ _ _ _) (by simp)
theorem pow7 {n : Nat} (h : n ≤ 7) : n ^ n ≤ 823543 := by
  rcases (show n = 0 ∨ n = 1 ∨ n = 2 ∨ n = 3 ∨ n = 4 ∨ n = 5 ∨ n = 6 ∨ n = 7 by omega) with rfl | rfl | rfl | rfl | rfl | rfl | rfl | rfl <;> decide
theorem s_cfind (X : SuS S su ra ro te si) (O : OrS S ob su path lo co fi f0 f1 gf) (P : (pg, shX2 t0 nu sp pt) ∈ S ∧ (pt, shJ 7) ∈ S) (nd : [ob, su, ra, ro, te, si, path, lo, co, f0, f1, pg, pt].Nodup) (x : PgT h pg pt D W T n) (hT : h.1 ro 2 = bI false)
    (hc : ¬ h.1 ob 6 = 0 → OaOk h co lo f0 n 0 (orG D W T n 0) ∧ OaOk h co lo f1 n 1 (orG D W T n 1)) :
    OkV (d + n + 4) mX1_find S [.ref ob, .ref pg] h (fun k => (OaOk k co lo f0 n 0 (orG D W T n 0) ∧ OaOk k co lo f1 n 1 (orG D W T n 1)) ∧ (¬ k.1 ob 6 = 0 ∧ k.1 ro 2 = bI false) ∧ fOff [ob, su, ra, ro, te, path, lo, co, f0, f1] h k) := by
  obtain ⟨⟨x1, x2, x3, x4, x5⟩, ⟨y0, y1⟩, g0, g1⟩ := id O
  have nd2 : [ob, su, ra, ro, te, si, path, lo, co, f0, f1].Nodup := nd.sublist (List.sublist_append_left [ob, su, ra, ro, te, si, path, lo, co, f0, f1] [pg, pt])
  have nd3 : [su, ra, ro, te, si, pg, pt].Nodup := nd.sublist (.cons _ (.cons₂ _ (.cons₂ _ (.cons₂ _ (.cons₂ _ (.cons₂ _ (.cons _ (.cons _ (.cons _ (.cons _ (.cons _ (List.Sublist.refl _))))))))))))
  have h7 := x.2.1
  refine NX1_find_0 x1 x4 X.1.1 ⟨fun z => ?_, fun z => ⟨hc z, ⟨z, hT⟩, fOff.rf⟩⟩
  rintro k1 rfl
  refine ⟨vp_in_nI (n := 0) (by decide) (by decide), ?_⟩
  rintro k2 rfl
  refine ⟨vp_in_nI (n := 1) (by decide) (by decide), ?_⟩
  rintro k3 hk3
  rw [show (0 : Int32).toNatClampNeg = 0 from rfl, show (1 : Int32).toNatClampNeg = 1 from rfl] at hk3
  have o3 : fOff [ob, co] h k3 := by
    rw [hk3]
    exact ((fOff.rf.of (f_off_fi _ _ _ _) (by simp)).of (f_off_ai _ _ _) (by simp)).of (f_off_ai _ _ _) (by simp)
  have f3 : k3.1 ob 6 = 1 := by rw [hk3, u_ai_1, u_ai_1, u_fi_s]
  have c30 : k3.2.2.1 co 0 = 0 := by rw [hk3, u_ai_s, upd_n _ _ (by decide), u_ai_s, upd_s]
  have c31 : k3.2.2.1 co 1 = 0 := by rw [hk3, u_ai_s, upd_s]
  clear hk3
  refine ⟨_, s_take (d := d + n + 2) X P nd3 (x.off o3 (nd_out nd 11 [0, 8] rfl rfl (by decide)) (nd_out nd 12 [0, 8] rfl rfl (by decide))) (by rw [(o3 ro (nd_out nd 3 [0, 8] rfl rfl (by decide))).1]; exact hT), ?_⟩
  rintro k4 ⟨s4, o4⟩
  refine ⟨_, s_cwhole X s4, ?_⟩
  rintro _ k4 ⟨rfl, rfl⟩
  rintro k5 hk5
  have o5 : fOff [ob] k4 k5 := by rw [hk5]; exact fOff.rf.of (f_off_fl _ _ _ _) (by simp)
  have s5 : SuOk k5 su ro te D W T n := s4.off o5 (nd_out nd 1 [0] rfl rfl (by decide)) (nd_out nd 3 [0] rfl rfl (by decide)) (nd_out nd 4 [0] rfl rfl (by decide))
  have w5 : k5.2.1 ob 5 = whF T n := by rw [hk5, u_fl_s]
  have f5 : k5.1 ob 6 = 1 := by rw [hk5, u_fl_1, (o4 ob (nd_out nd 0 [1, 3, 4] rfl rfl (by decide))).1]; exact f3
  have oc5 : k5.2.2.1 co = k3.2.2.1 co := by rw [(o5 co (nd_out nd 8 [0] rfl rfl (by decide))).2.2.1, (o4 co (nd_out nd 8 [1, 3, 4] rfl rfl (by decide))).2.2.1]
  clear hk5
  have A0 : OaOk k5 co lo f0 n 0 (0, 0, []) := ⟨by rw [oc5, c30]; rfl, fun q => absurd rfl q⟩
  have A1 : OaOk k5 co lo f1 n 1 (0, 0, []) := ⟨by rw [oc5, c31]; rfl, fun q => absurd rfl q⟩
  have oo : fOff [ob, su, ra, ro, te, path, lo, co, f0, f1] h k5 := ((o3.mono (by simp)).tr (o4.mono (by simp))).tr (o5.mono (by simp))
  rw [s5.2.1.1]
  refine ⟨fun q => ?_, fun q => ?_⟩
  · have e : n = 0 := by
      rw [show (0 : Int32) = nI 0 from rfl, nI_leI (by omega) (by decide)] at q
      omega
    have eg : ∀ k, orG D W T n k = (0, 0, []) := fun k => by unfold orG; rw [if_pos e]
    rw [eg, eg]
    exact ⟨⟨A0, A1⟩, ⟨by rw [f5]; decide, s5.1.2.2⟩, oo⟩
  · have hn : 1 ≤ n := by
      rcases Nat.eq_zero_or_pos n with w | w
      · subst w; exact absurd (by decide) q
      · exact w
    have hlen : (exL n n []).length ≤ 823543 := Nat.le_trans (exL_len n n []) (pow7 h7)
    have hcall := s_extend (d := d) (D := D) (W := W) (T := T) X O nd2 hn n [] 0 0 (0, 0, []) (0, 0, []) k5 (by simp) (by simp) (fun i _ => by rw [b_0]; simp) (fun e => absurd rfl e) (by simp only; omega) (by simp only; omega) ⟨s5, w5, fun j hj => by simp at hj, A0, A1⟩
    refine ⟨_, hcall, ?_⟩
    rintro k6 ⟨r1, r2⟩
    have eg : ∀ k, orG D W T n k = (exL n n []).foldl (osF D W T (whF T n) k) (0, 0, []) := fun k => by unfold orG orF; rw [if_neg (by omega)]
    rw [eg, eg]
    refine ⟨⟨r1.2.2.2.1, r1.2.2.2.2⟩, ⟨?_, r1.1.1.2.2⟩, oo.tr (r2.mono (by simp))⟩
    rw [(r2 ob (nd_out nd 0 [6, 7, 8, 9, 10, 2] rfl rfl (by decide))).1, f5]
    decide
end CFIND

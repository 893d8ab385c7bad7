theorem G_tabEq {Y : fM} {d : Nat} {S : fW} {Post : Option Value → fH → Prop} {pc : Nat} {lv : List (Nat × Value)} {st : List Value} {h : fH} {dflt lo hi off : Int} {offs : Array Int} {len tgt : Nat} {x v : Int32} (hd : decode Y.2.1 pc = .ok (.tableswitch dflt lo hi offs, len)) (hx : x = v) (h1 : ¬ v.toInt < lo) (h2 : ¬ hi < v.toInt) (ho : offs[(v.toInt - lo).toNat]? = some off) (ht : (pc : Int) + off = (tgt : Int)) (k : G Y d S Post tgt lv st h) : G Y d S Post pc lv (.int x :: st) h := by
  subst hx
  exact G_tabIn hd h1 h2 ho ht k
theorem f_tab_in {x : Int32} {n : Nat} (hn : n < 2 ^ 31) (h : ∀ j : Nat, j < n → ¬ x = nI j) : x.toInt < (0 : Int) ∨ ((n : Int) - 1) < x.toInt := by
  by_cases a : x.toInt < 0
  · exact Or.inl a
  · by_cases b : ((n : Int) - 1) < x.toInt
    · exact Or.inr b
    · obtain ⟨j, hj, e⟩ := vp_in_of (vp_in_iff.mpr ⟨by omega, by omega⟩ : vp_in x n) hn
      exact absurd e (h j hj)
theorem f_tab4 {x : Int32} (c0 : ¬ x = (0 : Int32)) (c1 : ¬ x = (1 : Int32)) (c2 : ¬ x = (2 : Int32)) (c3 : ¬ x = (3 : Int32)) : x.toInt < (0 : Int) ∨ (3 : Int) < x.toInt := by
  refine f_tab_in (n := 4) (by decide) (fun j hj => ?_)
  rcases (show j = 0 ∨ j = 1 ∨ j = 2 ∨ j = 3 by omega) with rfl | rfl | rfl | rfl <;> assumption
theorem f_tab5 {x : Int32} (c0 : ¬ x = (0 : Int32)) (c1 : ¬ x = (1 : Int32)) (c2 : ¬ x = (2 : Int32)) (c3 : ¬ x = (3 : Int32)) (c4 : ¬ x = (4 : Int32)) : x.toInt < (0 : Int) ∨ (4 : Int) < x.toInt := by
  refine f_tab_in (n := 5) (by decide) (fun j hj => ?_)
  rcases (show j = 0 ∨ j = 1 ∨ j = 2 ∨ j = 3 ∨ j = 4 by omega) with rfl | rfl | rfl | rfl | rfl <;> assumption
theorem f_tab6 {x : Int32} (c0 : ¬ x = (0 : Int32)) (c1 : ¬ x = (1 : Int32)) (c2 : ¬ x = (2 : Int32)) (c3 : ¬ x = (3 : Int32)) (c4 : ¬ x = (4 : Int32)) (c5 : ¬ x = (5 : Int32)) : x.toInt < (0 : Int) ∨ (5 : Int) < x.toInt := by
  refine f_tab_in (n := 6) (by decide) (fun j hj => ?_)
  rcases (show j = 0 ∨ j = 1 ∨ j = 2 ∨ j = 3 ∨ j = 4 ∨ j = 5 by omega) with rfl | rfl | rfl | rfl | rfl | rfl <;> assumption
theorem f_tab7 {x : Int32} (c0 : ¬ x = (0 : Int32)) (c1 : ¬ x = (1 : Int32)) (c2 : ¬ x = (2 : Int32)) (c3 : ¬ x = (3 : Int32)) (c4 : ¬ x = (4 : Int32)) (c5 : ¬ x = (5 : Int32)) (c6 : ¬ x = (6 : Int32)) : x.toInt < (0 : Int) ∨ (6 : Int) < x.toInt := by
  refine f_tab_in (n := 7) (by decide) (fun j hj => ?_)
  rcases (show j = 0 ∨ j = 1 ∨ j = 2 ∨ j = 3 ∨ j = 4 ∨ j = 5 ∨ j = 6 by omega) with rfl | rfl | rfl | rfl | rfl | rfl | rfl <;> assumption
theorem f_tab28 {x : Int32} (c0 : ¬ x = (0 : Int32)) (c1 : ¬ x = (1 : Int32)) (c2 : ¬ x = (2 : Int32)) (c3 : ¬ x = (3 : Int32)) (c4 : ¬ x = (4 : Int32)) (c5 : ¬ x = (5 : Int32)) (c6 : ¬ x = (6 : Int32)) (c7 : ¬ x = (7 : Int32)) (c8 : ¬ x = (8 : Int32)) (c9 : ¬ x = (9 : Int32)) (c10 : ¬ x = (10 : Int32)) (c11 : ¬ x = (11 : Int32)) (c12 : ¬ x = (12 : Int32)) (c13 : ¬ x = (13 : Int32)) (c14 : ¬ x = (14 : Int32)) (c15 : ¬ x = (15 : Int32)) (c16 : ¬ x = (16 : Int32)) (c17 : ¬ x = (17 : Int32)) (c18 : ¬ x = (18 : Int32)) (c19 : ¬ x = (19 : Int32)) (c20 : ¬ x = (20 : Int32)) (c21 : ¬ x = (21 : Int32)) (c22 : ¬ x = (22 : Int32)) (c23 : ¬ x = (23 : Int32)) (c24 : ¬ x = (24 : Int32)) (c25 : ¬ x = (25 : Int32)) (c26 : ¬ x = (26 : Int32)) (c27 : ¬ x = (27 : Int32)) : x.toInt < (0 : Int) ∨ (27 : Int) < x.toInt := by
  refine f_tab_in (n := 28) (by decide) (fun j hj => ?_)
  rcases (show j = 0 ∨ j = 1 ∨ j = 2 ∨ j = 3 ∨ j = 4 ∨ j = 5 ∨ j = 6 ∨ j = 7 ∨ j = 8 ∨ j = 9 ∨ j = 10 ∨ j = 11 ∨ j = 12 ∨ j = 13 ∨ j = 14 ∨ j = 15 ∨ j = 16 ∨ j = 17 ∨ j = 18 ∨ j = 19 ∨ j = 20 ∨ j = 21 ∨ j = 22 ∨ j = 23 ∨ j = 24 ∨ j = 25 ∨ j = 26 ∨ j = 27 by omega) with rfl | rfl | rfl | rfl | rfl | rfl | rfl | rfl | rfl | rfl | rfl | rfl | rfl | rfl | rfl | rfl | rfl | rfl | rfl | rfl | rfl | rfl | rfl | rfl | rfl | rfl | rfl | rfl <;> assumption
theorem G_nm {Y : fM} {d : Nat} {S : fW} {Post : Option Value → fH → Prop} {pc : Nat} {lv : List (Nat × Value)} {st : List Value} {h : fH} (k : ∀ h' : fH, h' = h → G Y d S Post pc lv st h') : G Y d S Post pc lv st h := k h rfl

/-! ===== the law's cases ===== -/
section LAWK
variable {p : Program} {l : Launch} {e : Env} {s : State} {m : MethodId} {below : List Frame} {meth : Method} {c : Code} {H : Heap} {locs : List Loc} {b L : Nat} {xs : Nat → Int32} {D : va_G} {cA : Nat → ClassId} {a0 : Nat} {ls : Array Slot} {σ1 σ2 : Nat → Nat} {h1 h2 : fH} {X : stP} {x3 : Int32}
/-- behind a case -/
abbrev lwK (p : Program) (l : Launch) (e : Env) (s : State) (m : MethodId) (below : List Frame) (meth : Method) (c : Code) (b : Nat) (D : va_G) (cA : Nat → ClassId) (σ1 σ2 : Nat → Nat) (ls : Array Slot) : Prop :=
  ∀ (h1 h2 : fH) (X : stP) (H : Heap) (locs : List Loc), CRel h1 X → MRel h2 X → StV X → LWd D cA σ1 σ2 h1 h2 (fun q => s.heap.size ≤ q) H → va_S (fun q => s.heap.size ≤ q) s.heap H locs → W p l e room_1 s m #[Value.ref b] below meth c H locs 600000 7302250 (lw_Z below #[Value.ref b] s) (F0 m 914 ls [])
theorem lw_k0 (E : lw_En p s m meth c b L xs D cA a0) (e1 : σ1 0 = a0) (e2 : σ2 0 = a0) (w : LWd D cA σ1 σ2 h1 h2 (fun q => s.heap.size ≤ q) H) (hS : va_S (fun q => s.heap.size ≤ q) s.heap H locs) (hl : lv_has ls 4 [(3, .int x3), (2, .ref (σ2 1)), (1, .ref (σ1 1)), (0, .ref b)]) (i1 : vp_in (x3 + 1) L) (i2 : vp_in (x3 + 2) L) (i3 : vp_in (x3 + 3) L) (x : CRel h1 X) (y : MRel h2 X) (v : StV X) (kk : lwK p l e s m below meth c b D cA σ1 σ2 ls) : W p l e room_1 s m #[Value.ref b] below meth c H locs 600000 7302250 (lw_Z below #[Value.ref b] s) (F0 m 160 ls []) := by
  obtain ⟨hx, hb, hr, hml4, hown, htl, hX, hbl, hlocks, hgv⟩ := E.1
  have hts := f_of_lw htl
  have hbA : ¬ (fun q : Nat => s.heap.size ≤ q) b := Nat.not_le.mpr hbl
  obtain ⟨X', a, v', ok1, ok2⟩ := bo_set x y v (xs (x3 + 1).toNatClampNeg) (xs (x3 + 2).toNatClampNeg)
  refine lv_aload_n hx hb dL_160 rfl (lv_at hl 2 rfl) ?_
  refine lv_aload_n hx hb dL_161 rfl (lv_at hl 3 rfl) ?_
  refine lv_iload_n hx hb dL_162 rfl (lv_at hl 0 rfl) ?_
  refine lv_iconst (v := 1) hx hb dL_163 (by decide) ?_
  refine lv_iadd hx hb dL_164 ?_
  refine va_sld hx hb hX hbl hbA hS i1 dL_165 ?_
  refine lv_aload_n hx hb dL_166 rfl (lv_at hl 3 rfl) ?_
  refine lv_iload_n hx hb dL_167 rfl (lv_at hl 0 rfl) ?_
  refine lv_iconst (v := 2) hx hb dL_168 (by decide) ?_
  refine lv_iadd hx hb dL_169 ?_
  refine va_sld hx hb hX hbl hbA hS i2 dL_170 ?_
  refine lw_cI (Z := mX11_set) (n := 2) (As := [.int (xs (x3 + 1).toNatClampNeg), .int (xs (x3 + 2).toNatClampNeg)]) (rest := []) E hL_L_13 hI_X11_set hS_X11_set hC_X11_set hN_X11 nX11_set (by decide) rfl rfl rfl e1 ok1 w hS hl.1 (Nat.le_of_ble_eq_true rfl) dL_171 (fun r1 k1 H1 locs1 q1 w1 hS1 => ?_)
  obtain ⟨rfl, x1⟩ := q1
  refine lv_aload_n hx hb dL_174 rfl (lv_at hl 1 rfl) ?_
  refine lv_aload_n hx hb dL_175 rfl (lv_at hl 3 rfl) ?_
  refine lv_iload_n hx hb dL_176 rfl (lv_at hl 0 rfl) ?_
  refine lv_iconst (v := 1) hx hb dL_177 (by decide) ?_
  refine lv_iadd hx hb dL_178 ?_
  refine va_sld hx hb hX hbl hbA hS1 i1 dL_179 ?_
  refine lv_aload_n hx hb dL_180 rfl (lv_at hl 3 rfl) ?_
  refine lv_iload_n hx hb dL_181 rfl (lv_at hl 0 rfl) ?_
  refine lv_iconst (v := 2) hx hb dL_182 (by decide) ?_
  refine lv_iadd hx hb dL_183 ?_
  refine va_sld hx hb hX hbl hbA hS1 i2 dL_184 ?_
  refine lw_mI (Z := mX12_set) (n := 2) (As := [.int (xs (x3 + 1).toNatClampNeg), .int (xs (x3 + 2).toNatClampNeg)]) (rest := [.int r1]) E hL_L_17 hI_X12_set hS_X12_set hC_X12_set hN_X12 nX12_set (by decide) rfl rfl rfl e2 ok2 w1 hS1 hl.1 (Nat.le_of_ble_eq_true rfl) dL_185 (fun r2 k2 H2 locs2 q2 w2 hS2 => ?_)
  obtain ⟨rfl, x2⟩ := q2
  exact lv_icmp_eq (tgt := 914) hx hb dL_188 (by decide) (fun _ => kk _ _ _ _ _ x1 x2 v' w2 hS2) (fun q => absurd rfl q)
theorem lw_k1 (E : lw_En p s m meth c b L xs D cA a0) (e1 : σ1 0 = a0) (e2 : σ2 0 = a0) (w : LWd D cA σ1 σ2 h1 h2 (fun q => s.heap.size ≤ q) H) (hS : va_S (fun q => s.heap.size ≤ q) s.heap H locs) (hl : lv_has ls 4 [(3, .int x3), (2, .ref (σ2 1)), (1, .ref (σ1 1)), (0, .ref b)]) (i1 : vp_in (x3 + 1) L) (i2 : vp_in (x3 + 2) L) (i3 : vp_in (x3 + 3) L) (x : CRel h1 X) (y : MRel h2 X) (v : StV X) (kk : lwK p l e s m below meth c b D cA σ1 σ2 ls) : W p l e room_1 s m #[Value.ref b] below meth c H locs 600000 7302250 (lw_Z below #[Value.ref b] s) (F0 m 193 ls []) := by
  obtain ⟨hx, hb, hr, hml4, hown, htl, hX, hbl, hlocks, hgv⟩ := E.1
  have hts := f_of_lw htl
  have hbA : ¬ (fun q : Nat => s.heap.size ≤ q) b := Nat.not_le.mpr hbl
  obtain ⟨X', a, v', ok1, ok2⟩ := bo_round x y v (xs (x3 + 1).toNatClampNeg) (xs (x3 + 2).toNatClampNeg) (xs (x3 + 3).toNatClampNeg)
  refine lv_aload_n hx hb dL_193 rfl (lv_at hl 2 rfl) ?_
  refine lv_aload_n hx hb dL_194 rfl (lv_at hl 3 rfl) ?_
  refine lv_iload_n hx hb dL_195 rfl (lv_at hl 0 rfl) ?_
  refine lv_iconst (v := 1) hx hb dL_196 (by decide) ?_
  refine lv_iadd hx hb dL_197 ?_
  refine va_sld hx hb hX hbl hbA hS i1 dL_198 ?_
  refine lv_aload_n hx hb dL_199 rfl (lv_at hl 3 rfl) ?_
  refine lv_iload_n hx hb dL_200 rfl (lv_at hl 0 rfl) ?_
  refine lv_iconst (v := 2) hx hb dL_201 (by decide) ?_
  refine lv_iadd hx hb dL_202 ?_
  refine va_sld hx hb hX hbl hbA hS i2 dL_203 ?_
  refine lv_aload_n hx hb dL_204 rfl (lv_at hl 3 rfl) ?_
  refine lv_iload_n hx hb dL_205 rfl (lv_at hl 0 rfl) ?_
  refine lv_iconst (v := 3) hx hb dL_206 (by decide) ?_
  refine lv_iadd hx hb dL_207 ?_
  refine va_sld hx hb hX hbl hbA hS i3 dL_208 ?_
  refine lw_cL (Z := mX11_round) (n := 3) (As := [.int (xs (x3 + 1).toNatClampNeg), .int (xs (x3 + 2).toNatClampNeg), .int (xs (x3 + 3).toNatClampNeg)]) (rest := []) E hL_L_18 hI_X11_round hS_X11_round hC_X11_round hN_X11 nX11_round (by decide) rfl rfl rfl e1 ok1 w hS hl.1 (Nat.le_of_ble_eq_true rfl) dL_209 (fun r1 k1 H1 locs1 q1 w1 hS1 => ?_)
  obtain ⟨rfl, x1⟩ := q1
  refine lv_aload_n hx hb dL_212 rfl (lv_at hl 1 rfl) ?_
  refine lv_aload_n hx hb dL_213 rfl (lv_at hl 3 rfl) ?_
  refine lv_iload_n hx hb dL_214 rfl (lv_at hl 0 rfl) ?_
  refine lv_iconst (v := 1) hx hb dL_215 (by decide) ?_
  refine lv_iadd hx hb dL_216 ?_
  refine va_sld hx hb hX hbl hbA hS1 i1 dL_217 ?_
  refine lv_aload_n hx hb dL_218 rfl (lv_at hl 3 rfl) ?_
  refine lv_iload_n hx hb dL_219 rfl (lv_at hl 0 rfl) ?_
  refine lv_iconst (v := 2) hx hb dL_220 (by decide) ?_
  refine lv_iadd hx hb dL_221 ?_
  refine va_sld hx hb hX hbl hbA hS1 i2 dL_222 ?_
  refine lv_aload_n hx hb dL_223 rfl (lv_at hl 3 rfl) ?_
  refine lv_iload_n hx hb dL_224 rfl (lv_at hl 0 rfl) ?_
  refine lv_iconst (v := 3) hx hb dL_225 (by decide) ?_
  refine lv_iadd hx hb dL_226 ?_
  refine va_sld hx hb hX hbl hbA hS1 i3 dL_227 ?_
  refine lw_mL (Z := mX12_round) (n := 3) (As := [.int (xs (x3 + 1).toNatClampNeg), .int (xs (x3 + 2).toNatClampNeg), .int (xs (x3 + 3).toNatClampNeg)]) (rest := [.long r1]) E hL_L_22 hI_X12_round hS_X12_round hC_X12_round hN_X12 nX12_round (by decide) rfl rfl rfl e2 ok2 w1 hS1 hl.1 (Nat.le_of_ble_eq_true rfl) dL_228 (fun r2 k2 H2 locs2 q2 w2 hS2 => ?_)
  obtain ⟨rfl, x2⟩ := q2
  refine W.lcmp hx hb dL_231 ?_
  exact lv_if_eq (tgt := 914) hx hb dL_232 (by decide) (fun _ => kk _ _ _ _ _ x1 x2 v' w2 hS2) (fun q => absurd ((lc_eq _ _).mpr rfl) q)
theorem lw_k2 (E : lw_En p s m meth c b L xs D cA a0) (e1 : σ1 0 = a0) (e2 : σ2 0 = a0) (w : LWd D cA σ1 σ2 h1 h2 (fun q => s.heap.size ≤ q) H) (hS : va_S (fun q => s.heap.size ≤ q) s.heap H locs) (hl : lv_has ls 4 [(3, .int x3), (2, .ref (σ2 1)), (1, .ref (σ1 1)), (0, .ref b)]) (i1 : vp_in (x3 + 1) L) (i2 : vp_in (x3 + 2) L) (i3 : vp_in (x3 + 3) L) (x : CRel h1 X) (y : MRel h2 X) (v : StV X) (kk : lwK p l e s m below meth c b D cA σ1 σ2 ls) : W p l e room_1 s m #[Value.ref b] below meth c H locs 600000 7302250 (lw_Z below #[Value.ref b] s) (F0 m 237 ls []) := by
  obtain ⟨hx, hb, hr, hml4, hown, htl, hX, hbl, hlocks, hgv⟩ := E.1
  have hts := f_of_lw htl
  have hbA : ¬ (fun q : Nat => s.heap.size ≤ q) b := Nat.not_le.mpr hbl
  obtain ⟨X', a, v', ok1, ok2⟩ := bo_say x y v (xs (x3 + 1).toNatClampNeg)
  refine lv_aload_n hx hb dL_237 rfl (lv_at hl 2 rfl) ?_
  refine lv_aload_n hx hb dL_238 rfl (lv_at hl 3 rfl) ?_
  refine lv_iload_n hx hb dL_239 rfl (lv_at hl 0 rfl) ?_
  refine lv_iconst (v := 1) hx hb dL_240 (by decide) ?_
  refine lv_iadd hx hb dL_241 ?_
  refine va_sld hx hb hX hbl hbA hS i1 dL_242 ?_
  refine lw_cI (Z := mX11_say) (n := 1) (As := [.int (xs (x3 + 1).toNatClampNeg)]) (rest := []) E hL_L_23 hI_X11_say hS_X11_say hC_X11_say hN_X11 nX11_say (by decide) rfl rfl rfl e1 ok1 w hS hl.1 (Nat.le_of_ble_eq_true rfl) dL_243 (fun r1 k1 H1 locs1 q1 w1 hS1 => ?_)
  obtain ⟨rfl, x1⟩ := q1
  refine lv_aload_n hx hb dL_246 rfl (lv_at hl 1 rfl) ?_
  refine lv_aload_n hx hb dL_247 rfl (lv_at hl 3 rfl) ?_
  refine lv_iload_n hx hb dL_248 rfl (lv_at hl 0 rfl) ?_
  refine lv_iconst (v := 1) hx hb dL_249 (by decide) ?_
  refine lv_iadd hx hb dL_250 ?_
  refine va_sld hx hb hX hbl hbA hS1 i1 dL_251 ?_
  refine lw_mI (Z := mX12_say) (n := 1) (As := [.int (xs (x3 + 1).toNatClampNeg)]) (rest := [.int r1]) E hL_L_27 hI_X12_say hS_X12_say hC_X12_say hN_X12 nX12_say (by decide) rfl rfl rfl e2 ok2 w1 hS1 hl.1 (Nat.le_of_ble_eq_true rfl) dL_252 (fun r2 k2 H2 locs2 q2 w2 hS2 => ?_)
  obtain ⟨rfl, x2⟩ := q2
  exact lv_icmp_eq (tgt := 914) hx hb dL_255 (by decide) (fun _ => kk _ _ _ _ _ x1 x2 v' w2 hS2) (fun q => absurd rfl q)
theorem lw_k3 (E : lw_En p s m meth c b L xs D cA a0) (e1 : σ1 0 = a0) (e2 : σ2 0 = a0) (w : LWd D cA σ1 σ2 h1 h2 (fun q => s.heap.size ≤ q) H) (hS : va_S (fun q => s.heap.size ≤ q) s.heap H locs) (hl : lv_has ls 4 [(3, .int x3), (2, .ref (σ2 1)), (1, .ref (σ1 1)), (0, .ref b)]) (i1 : vp_in (x3 + 1) L) (i2 : vp_in (x3 + 2) L) (i3 : vp_in (x3 + 3) L) (x : CRel h1 X) (y : MRel h2 X) (v : StV X) (kk : lwK p l e s m below meth c b D cA σ1 σ2 ls) : W p l e room_1 s m #[Value.ref b] below meth c H locs 600000 7302250 (lw_Z below #[Value.ref b] s) (F0 m 260 ls []) := by
  obtain ⟨hx, hb, hr, hml4, hown, htl, hX, hbl, hlocks, hgv⟩ := E.1
  have hts := f_of_lw htl
  have hbA : ¬ (fun q : Nat => s.heap.size ≤ q) b := Nat.not_le.mpr hbl
  obtain ⟨X', a, v', ok1, ok2⟩ := bo_wipe x y v 
  refine lv_aload_n hx hb dL_260 rfl (lv_at hl 2 rfl) ?_
  refine lw_cI (Z := mX11_wipe) (n := 0) (As := []) (rest := []) E hL_L_28 hI_X11_wipe hS_X11_wipe hC_X11_wipe hN_X11 nX11_wipe (by decide) rfl rfl rfl e1 ok1 w hS hl.1 (Nat.le_of_ble_eq_true rfl) dL_261 (fun r1 k1 H1 locs1 q1 w1 hS1 => ?_)
  obtain ⟨rfl, x1⟩ := q1
  refine lv_aload_n hx hb dL_264 rfl (lv_at hl 1 rfl) ?_
  refine lw_mI (Z := mX12_wipe) (n := 0) (As := []) (rest := [.int r1]) E hL_L_32 hI_X12_wipe hS_X12_wipe hC_X12_wipe hN_X12 nX12_wipe (by decide) rfl rfl rfl e2 ok2 w1 hS1 hl.1 (Nat.le_of_ble_eq_true rfl) dL_265 (fun r2 k2 H2 locs2 q2 w2 hS2 => ?_)
  obtain ⟨rfl, x2⟩ := q2
  exact lv_icmp_eq (tgt := 914) hx hb dL_268 (by decide) (fun _ => kk _ _ _ _ _ x1 x2 v' w2 hS2) (fun q => absurd rfl q)
theorem lw_k4 (E : lw_En p s m meth c b L xs D cA a0) (e1 : σ1 0 = a0) (e2 : σ2 0 = a0) (w : LWd D cA σ1 σ2 h1 h2 (fun q => s.heap.size ≤ q) H) (hS : va_S (fun q => s.heap.size ≤ q) s.heap H locs) (hl : lv_has ls 4 [(3, .int x3), (2, .ref (σ2 1)), (1, .ref (σ1 1)), (0, .ref b)]) (i1 : vp_in (x3 + 1) L) (i2 : vp_in (x3 + 2) L) (i3 : vp_in (x3 + 3) L) (x : CRel h1 X) (y : MRel h2 X) (v : StV X) (kk : lwK p l e s m below meth c b D cA σ1 σ2 ls) : W p l e room_1 s m #[Value.ref b] below meth c H locs 600000 7302250 (lw_Z below #[Value.ref b] s) (F0 m 273 ls []) := by
  obtain ⟨hx, hb, hr, hml4, hown, htl, hX, hbl, hlocks, hgv⟩ := E.1
  have hts := f_of_lw htl
  have hbA : ¬ (fun q : Nat => s.heap.size ≤ q) b := Nat.not_le.mpr hbl
  obtain ⟨X', a, v', ok1, ok2⟩ := bo_fault x y v 
  refine lv_aload_n hx hb dL_273 rfl (lv_at hl 2 rfl) ?_
  refine lw_cI (Z := mX11_fault) (n := 0) (As := []) (rest := []) E hL_L_33 hI_X11_fault hS_X11_fault hC_X11_fault hN_X11 nX11_fault (by decide) rfl rfl rfl e1 ok1 w hS hl.1 (Nat.le_of_ble_eq_true rfl) dL_274 (fun r1 k1 H1 locs1 q1 w1 hS1 => ?_)
  obtain ⟨rfl, x1⟩ := q1
  refine lv_aload_n hx hb dL_277 rfl (lv_at hl 1 rfl) ?_
  refine lw_mI (Z := mX12_fault) (n := 0) (As := []) (rest := [.int r1]) E hL_L_36 hI_X12_fault hS_X12_fault hC_X12_fault hN_X12 nX12_fault (by decide) rfl rfl rfl e2 ok2 w1 hS1 hl.1 (Nat.le_of_ble_eq_true rfl) dL_278 (fun r2 k2 H2 locs2 q2 w2 hS2 => ?_)
  obtain ⟨rfl, x2⟩ := q2
  exact lv_icmp_eq (tgt := 914) hx hb dL_281 (by decide) (fun _ => kk _ _ _ _ _ x1 x2 v' w2 hS2) (fun q => absurd rfl q)
theorem lw_k5 (E : lw_En p s m meth c b L xs D cA a0) (e1 : σ1 0 = a0) (e2 : σ2 0 = a0) (w : LWd D cA σ1 σ2 h1 h2 (fun q => s.heap.size ≤ q) H) (hS : va_S (fun q => s.heap.size ≤ q) s.heap H locs) (hl : lv_has ls 4 [(3, .int x3), (2, .ref (σ2 1)), (1, .ref (σ1 1)), (0, .ref b)]) (i1 : vp_in (x3 + 1) L) (i2 : vp_in (x3 + 2) L) (i3 : vp_in (x3 + 3) L) (x : CRel h1 X) (y : MRel h2 X) (v : StV X) (kk : lwK p l e s m below meth c b D cA σ1 σ2 ls) : W p l e room_1 s m #[Value.ref b] below meth c H locs 600000 7302250 (lw_Z below #[Value.ref b] s) (F0 m 286 ls []) := by
  obtain ⟨hx, hb, hr, hml4, hown, htl, hX, hbl, hlocks, hgv⟩ := E.1
  have hts := f_of_lw htl
  have hbA : ¬ (fun q : Nat => s.heap.size ≤ q) b := Nat.not_le.mpr hbl
  obtain ⟨X', a, v', ok1, ok2⟩ := bo_text x y v 
  refine lv_aload_n hx hb dL_286 rfl (lv_at hl 2 rfl) ?_
  refine lw_cI (Z := mX11_text) (n := 0) (As := []) (rest := []) E hL_L_37 hI_X11_text hS_X11_text hC_X11_text hN_X11 nX11_text (by decide) rfl rfl rfl e1 ok1 w hS hl.1 (Nat.le_of_ble_eq_true rfl) dL_287 (fun r1 k1 H1 locs1 q1 w1 hS1 => ?_)
  obtain ⟨rfl, x1⟩ := q1
  refine lv_aload_n hx hb dL_290 rfl (lv_at hl 1 rfl) ?_
  refine lw_mI (Z := mX12_text) (n := 0) (As := []) (rest := [.int r1]) E hL_L_40 hI_X12_text hS_X12_text hC_X12_text hN_X12 nX12_text (by decide) rfl rfl rfl e2 ok2 w1 hS1 hl.1 (Nat.le_of_ble_eq_true rfl) dL_291 (fun r2 k2 H2 locs2 q2 w2 hS2 => ?_)
  obtain ⟨rfl, x2⟩ := q2
  exact lv_icmp_eq (tgt := 914) hx hb dL_294 (by decide) (fun _ => kk _ _ _ _ _ x1 x2 v' w2 hS2) (fun q => absurd rfl q)
theorem lw_k6 (E : lw_En p s m meth c b L xs D cA a0) (e1 : σ1 0 = a0) (e2 : σ2 0 = a0) (w : LWd D cA σ1 σ2 h1 h2 (fun q => s.heap.size ≤ q) H) (hS : va_S (fun q => s.heap.size ≤ q) s.heap H locs) (hl : lv_has ls 4 [(3, .int x3), (2, .ref (σ2 1)), (1, .ref (σ1 1)), (0, .ref b)]) (i1 : vp_in (x3 + 1) L) (i2 : vp_in (x3 + 2) L) (i3 : vp_in (x3 + 3) L) (x : CRel h1 X) (y : MRel h2 X) (v : StV X) (kk : lwK p l e s m below meth c b D cA σ1 σ2 ls) : W p l e room_1 s m #[Value.ref b] below meth c H locs 600000 7302250 (lw_Z below #[Value.ref b] s) (F0 m 299 ls []) := by
  obtain ⟨hx, hb, hr, hml4, hown, htl, hX, hbl, hlocks, hgv⟩ := E.1
  have hts := f_of_lw htl
  have hbA : ¬ (fun q : Nat => s.heap.size ≤ q) b := Nat.not_le.mpr hbl
  obtain ⟨X', a, v', ok1, ok2⟩ := bo_sign x y v (xs (x3 + 1).toNatClampNeg)
  refine lv_aload_n hx hb dL_299 rfl (lv_at hl 2 rfl) ?_
  refine lv_aload_n hx hb dL_300 rfl (lv_at hl 3 rfl) ?_
  refine lv_iload_n hx hb dL_301 rfl (lv_at hl 0 rfl) ?_
  refine lv_iconst (v := 1) hx hb dL_302 (by decide) ?_
  refine lv_iadd hx hb dL_303 ?_
  refine va_sld hx hb hX hbl hbA hS i1 dL_304 ?_
  refine lw_cI (Z := mX11_sign) (n := 1) (As := [.int (xs (x3 + 1).toNatClampNeg)]) (rest := []) E hL_L_41 hI_X11_sign hS_X11_sign hC_X11_sign hN_X11 nX11_sign (by decide) rfl rfl rfl e1 ok1 w hS hl.1 (Nat.le_of_ble_eq_true rfl) dL_305 (fun r1 k1 H1 locs1 q1 w1 hS1 => ?_)
  obtain ⟨rfl, x1⟩ := q1
  refine lv_aload_n hx hb dL_308 rfl (lv_at hl 1 rfl) ?_
  refine lv_aload_n hx hb dL_309 rfl (lv_at hl 3 rfl) ?_
  refine lv_iload_n hx hb dL_310 rfl (lv_at hl 0 rfl) ?_
  refine lv_iconst (v := 1) hx hb dL_311 (by decide) ?_
  refine lv_iadd hx hb dL_312 ?_
  refine va_sld hx hb hX hbl hbA hS1 i1 dL_313 ?_
  refine lw_mI (Z := mX12_sign) (n := 1) (As := [.int (xs (x3 + 1).toNatClampNeg)]) (rest := [.int r1]) E hL_L_44 hI_X12_sign hS_X12_sign hC_X12_sign hN_X12 nX12_sign (by decide) rfl rfl rfl e2 ok2 w1 hS1 hl.1 (Nat.le_of_ble_eq_true rfl) dL_314 (fun r2 k2 H2 locs2 q2 w2 hS2 => ?_)
  obtain ⟨rfl, x2⟩ := q2
  exact lv_icmp_eq (tgt := 914) hx hb dL_317 (by decide) (fun _ => kk _ _ _ _ _ x1 x2 v' w2 hS2) (fun q => absurd rfl q)
theorem lw_k7 (E : lw_En p s m meth c b L xs D cA a0) (e1 : σ1 0 = a0) (e2 : σ2 0 = a0) (w : LWd D cA σ1 σ2 h1 h2 (fun q => s.heap.size ≤ q) H) (hS : va_S (fun q => s.heap.size ≤ q) s.heap H locs) (hl : lv_has ls 4 [(3, .int x3), (2, .ref (σ2 1)), (1, .ref (σ1 1)), (0, .ref b)]) (i1 : vp_in (x3 + 1) L) (i2 : vp_in (x3 + 2) L) (i3 : vp_in (x3 + 3) L) (x : CRel h1 X) (y : MRel h2 X) (v : StV X) (kk : lwK p l e s m below meth c b D cA σ1 σ2 ls) : W p l e room_1 s m #[Value.ref b] below meth c H locs 600000 7302250 (lw_Z below #[Value.ref b] s) (F0 m 322 ls []) := by
  obtain ⟨hx, hb, hr, hml4, hown, htl, hX, hbl, hlocks, hgv⟩ := E.1
  have hts := f_of_lw htl
  have hbA : ¬ (fun q : Nat => s.heap.size ≤ q) b := Nat.not_le.mpr hbl
  obtain ⟨X', a, v', ok1, ok2⟩ := bo_put x y v (xs (x3 + 1).toNatClampNeg) (xs (x3 + 2).toNatClampNeg) (xs (x3 + 3).toNatClampNeg)
  refine lv_aload_n hx hb dL_322 rfl (lv_at hl 2 rfl) ?_
  refine lv_aload_n hx hb dL_323 rfl (lv_at hl 3 rfl) ?_
  refine lv_iload_n hx hb dL_324 rfl (lv_at hl 0 rfl) ?_
  refine lv_iconst (v := 1) hx hb dL_325 (by decide) ?_
  refine lv_iadd hx hb dL_326 ?_
  refine va_sld hx hb hX hbl hbA hS i1 dL_327 ?_
  refine lv_aload_n hx hb dL_328 rfl (lv_at hl 3 rfl) ?_
  refine lv_iload_n hx hb dL_329 rfl (lv_at hl 0 rfl) ?_
  refine lv_iconst (v := 2) hx hb dL_330 (by decide) ?_
  refine lv_iadd hx hb dL_331 ?_
  refine va_sld hx hb hX hbl hbA hS i2 dL_332 ?_
  refine lv_aload_n hx hb dL_333 rfl (lv_at hl 3 rfl) ?_
  refine lv_iload_n hx hb dL_334 rfl (lv_at hl 0 rfl) ?_
  refine lv_iconst (v := 3) hx hb dL_335 (by decide) ?_
  refine lv_iadd hx hb dL_336 ?_
  refine va_sld hx hb hX hbl hbA hS i3 dL_337 ?_
  refine lw_cI (Z := mX11_put) (n := 3) (As := [.int (xs (x3 + 1).toNatClampNeg), .int (xs (x3 + 2).toNatClampNeg), .int (xs (x3 + 3).toNatClampNeg)]) (rest := []) E hL_L_45 hI_X11_put hS_X11_put hC_X11_put hN_X11 nX11_put (by decide) rfl rfl rfl e1 ok1 w hS hl.1 (Nat.le_of_ble_eq_true rfl) dL_338 (fun r1 k1 H1 locs1 q1 w1 hS1 => ?_)
  obtain ⟨rfl, x1⟩ := q1
  refine lv_aload_n hx hb dL_341 rfl (lv_at hl 1 rfl) ?_
  refine lv_aload_n hx hb dL_342 rfl (lv_at hl 3 rfl) ?_
  refine lv_iload_n hx hb dL_343 rfl (lv_at hl 0 rfl) ?_
  refine lv_iconst (v := 1) hx hb dL_344 (by decide) ?_
  refine lv_iadd hx hb dL_345 ?_
  refine va_sld hx hb hX hbl hbA hS1 i1 dL_346 ?_
  refine lv_aload_n hx hb dL_347 rfl (lv_at hl 3 rfl) ?_
  refine lv_iload_n hx hb dL_348 rfl (lv_at hl 0 rfl) ?_
  refine lv_iconst (v := 2) hx hb dL_349 (by decide) ?_
  refine lv_iadd hx hb dL_350 ?_
  refine va_sld hx hb hX hbl hbA hS1 i2 dL_351 ?_
  refine lv_aload_n hx hb dL_352 rfl (lv_at hl 3 rfl) ?_
  refine lv_iload_n hx hb dL_353 rfl (lv_at hl 0 rfl) ?_
  refine lv_iconst (v := 3) hx hb dL_354 (by decide) ?_
  refine lv_iadd hx hb dL_355 ?_
  refine va_sld hx hb hX hbl hbA hS1 i3 dL_356 ?_
  refine lw_mI (Z := mX12_put) (n := 3) (As := [.int (xs (x3 + 1).toNatClampNeg), .int (xs (x3 + 2).toNatClampNeg), .int (xs (x3 + 3).toNatClampNeg)]) (rest := [.int r1]) E hL_L_49 hI_X12_put hS_X12_put hC_X12_put hN_X12 nX12_put (by decide) rfl rfl rfl e2 ok2 w1 hS1 hl.1 (Nat.le_of_ble_eq_true rfl) dL_357 (fun r2 k2 H2 locs2 q2 w2 hS2 => ?_)
  obtain ⟨rfl, x2⟩ := q2
  exact lv_icmp_eq (tgt := 914) hx hb dL_360 (by decide) (fun _ => kk _ _ _ _ _ x1 x2 v' w2 hS2) (fun q => absurd rfl q)
theorem lw_k8 (E : lw_En p s m meth c b L xs D cA a0) (e1 : σ1 0 = a0) (e2 : σ2 0 = a0) (w : LWd D cA σ1 σ2 h1 h2 (fun q => s.heap.size ≤ q) H) (hS : va_S (fun q => s.heap.size ≤ q) s.heap H locs) (hl : lv_has ls 4 [(3, .int x3), (2, .ref (σ2 1)), (1, .ref (σ1 1)), (0, .ref b)]) (i1 : vp_in (x3 + 1) L) (i2 : vp_in (x3 + 2) L) (i3 : vp_in (x3 + 3) L) (x : CRel h1 X) (y : MRel h2 X) (v : StV X) (kk : lwK p l e s m below meth c b D cA σ1 σ2 ls) : W p l e room_1 s m #[Value.ref b] below meth c H locs 600000 7302250 (lw_Z below #[Value.ref b] s) (F0 m 365 ls []) := by
  obtain ⟨hx, hb, hr, hml4, hown, htl, hX, hbl, hlocks, hgv⟩ := E.1
  have hts := f_of_lw htl
  have hbA : ¬ (fun q : Nat => s.heap.size ≤ q) b := Nat.not_le.mpr hbl
  obtain ⟨X', a, v', ok1, ok2⟩ := bo_worked x y v (xs (x3 + 1).toNatClampNeg) (xs (x3 + 2).toNatClampNeg)
  refine lv_aload_n hx hb dL_365 rfl (lv_at hl 2 rfl) ?_
  refine lv_aload_n hx hb dL_366 rfl (lv_at hl 3 rfl) ?_
  refine lv_iload_n hx hb dL_367 rfl (lv_at hl 0 rfl) ?_
  refine lv_iconst (v := 1) hx hb dL_368 (by decide) ?_
  refine lv_iadd hx hb dL_369 ?_
  refine va_sld hx hb hX hbl hbA hS i1 dL_370 ?_
  refine lv_aload_n hx hb dL_371 rfl (lv_at hl 3 rfl) ?_
  refine lv_iload_n hx hb dL_372 rfl (lv_at hl 0 rfl) ?_
  refine lv_iconst (v := 2) hx hb dL_373 (by decide) ?_
  refine lv_iadd hx hb dL_374 ?_
  refine va_sld hx hb hX hbl hbA hS i2 dL_375 ?_
  refine lw_cL (Z := mX11_worked) (n := 2) (As := [.int (xs (x3 + 1).toNatClampNeg), .int (xs (x3 + 2).toNatClampNeg)]) (rest := []) E hL_L_50 hI_X11_worked hS_X11_worked hC_X11_worked hN_X11 nX11_worked (by decide) rfl rfl rfl e1 ok1 w hS hl.1 (Nat.le_of_ble_eq_true rfl) dL_376 (fun r1 k1 H1 locs1 q1 w1 hS1 => ?_)
  obtain ⟨rfl, x1⟩ := q1
  refine lv_aload_n hx hb dL_379 rfl (lv_at hl 1 rfl) ?_
  refine lv_aload_n hx hb dL_380 rfl (lv_at hl 3 rfl) ?_
  refine lv_iload_n hx hb dL_381 rfl (lv_at hl 0 rfl) ?_
  refine lv_iconst (v := 1) hx hb dL_382 (by decide) ?_
  refine lv_iadd hx hb dL_383 ?_
  refine va_sld hx hb hX hbl hbA hS1 i1 dL_384 ?_
  refine lv_aload_n hx hb dL_385 rfl (lv_at hl 3 rfl) ?_
  refine lv_iload_n hx hb dL_386 rfl (lv_at hl 0 rfl) ?_
  refine lv_iconst (v := 2) hx hb dL_387 (by decide) ?_
  refine lv_iadd hx hb dL_388 ?_
  refine va_sld hx hb hX hbl hbA hS1 i2 dL_389 ?_
  refine lw_mL (Z := mX12_worked) (n := 2) (As := [.int (xs (x3 + 1).toNatClampNeg), .int (xs (x3 + 2).toNatClampNeg)]) (rest := [.long r1]) E hL_L_54 hI_X12_worked hS_X12_worked hC_X12_worked hN_X12 nX12_worked (by decide) rfl rfl rfl e2 ok2 w1 hS1 hl.1 (Nat.le_of_ble_eq_true rfl) dL_390 (fun r2 k2 H2 locs2 q2 w2 hS2 => ?_)
  obtain ⟨rfl, x2⟩ := q2
  refine W.lcmp hx hb dL_393 ?_
  exact lv_if_eq (tgt := 914) hx hb dL_394 (by decide) (fun _ => kk _ _ _ _ _ x1 x2 v' w2 hS2) (fun q => absurd ((lc_eq _ _).mpr rfl) q)
theorem lw_k9 (E : lw_En p s m meth c b L xs D cA a0) (e1 : σ1 0 = a0) (e2 : σ2 0 = a0) (w : LWd D cA σ1 σ2 h1 h2 (fun q => s.heap.size ≤ q) H) (hS : va_S (fun q => s.heap.size ≤ q) s.heap H locs) (hl : lv_has ls 4 [(3, .int x3), (2, .ref (σ2 1)), (1, .ref (σ1 1)), (0, .ref b)]) (i1 : vp_in (x3 + 1) L) (i2 : vp_in (x3 + 2) L) (i3 : vp_in (x3 + 3) L) (x : CRel h1 X) (y : MRel h2 X) (v : StV X) (kk : lwK p l e s m below meth c b D cA σ1 σ2 ls) : W p l e room_1 s m #[Value.ref b] below meth c H locs 600000 7302250 (lw_Z below #[Value.ref b] s) (F0 m 399 ls []) := by
  obtain ⟨hx, hb, hr, hml4, hown, htl, hX, hbl, hlocks, hgv⟩ := E.1
  have hts := f_of_lw htl
  have hbA : ¬ (fun q : Nat => s.heap.size ≤ q) b := Nat.not_le.mpr hbl
  obtain ⟨X', a, v', ok1, ok2⟩ := bo_exact x y v (xs (x3 + 1).toNatClampNeg)
  refine lv_aload_n hx hb dL_399 rfl (lv_at hl 2 rfl) ?_
  refine lv_aload_n hx hb dL_400 rfl (lv_at hl 3 rfl) ?_
  refine lv_iload_n hx hb dL_401 rfl (lv_at hl 0 rfl) ?_
  refine lv_iconst (v := 1) hx hb dL_402 (by decide) ?_
  refine lv_iadd hx hb dL_403 ?_
  refine va_sld hx hb hX hbl hbA hS i1 dL_404 ?_
  refine lw_cL (Z := mX11_exact) (n := 1) (As := [.int (xs (x3 + 1).toNatClampNeg)]) (rest := []) E hL_L_55 hI_X11_exact hS_X11_exact hC_X11_exact hN_X11 nX11_exact (by decide) rfl rfl rfl e1 ok1 w hS hl.1 (Nat.le_of_ble_eq_true rfl) dL_405 (fun r1 k1 H1 locs1 q1 w1 hS1 => ?_)
  obtain ⟨rfl, x1⟩ := q1
  refine lv_aload_n hx hb dL_408 rfl (lv_at hl 1 rfl) ?_
  refine lv_aload_n hx hb dL_409 rfl (lv_at hl 3 rfl) ?_
  refine lv_iload_n hx hb dL_410 rfl (lv_at hl 0 rfl) ?_
  refine lv_iconst (v := 1) hx hb dL_411 (by decide) ?_
  refine lv_iadd hx hb dL_412 ?_
  refine va_sld hx hb hX hbl hbA hS1 i1 dL_413 ?_
  refine lw_mL (Z := mX12_exact) (n := 1) (As := [.int (xs (x3 + 1).toNatClampNeg)]) (rest := [.long r1]) E hL_L_59 hI_X12_exact hS_X12_exact hC_X12_exact hN_X12 nX12_exact (by decide) rfl rfl rfl e2 ok2 w1 hS1 hl.1 (Nat.le_of_ble_eq_true rfl) dL_414 (fun r2 k2 H2 locs2 q2 w2 hS2 => ?_)
  obtain ⟨rfl, x2⟩ := q2
  refine W.lcmp hx hb dL_417 ?_
  exact lv_if_eq (tgt := 914) hx hb dL_418 (by decide) (fun _ => kk _ _ _ _ _ x1 x2 v' w2 hS2) (fun q => absurd ((lc_eq _ _).mpr rfl) q)
theorem lw_k10 (E : lw_En p s m meth c b L xs D cA a0) (e1 : σ1 0 = a0) (e2 : σ2 0 = a0) (w : LWd D cA σ1 σ2 h1 h2 (fun q => s.heap.size ≤ q) H) (hS : va_S (fun q => s.heap.size ≤ q) s.heap H locs) (hl : lv_has ls 4 [(3, .int x3), (2, .ref (σ2 1)), (1, .ref (σ1 1)), (0, .ref b)]) (i1 : vp_in (x3 + 1) L) (i2 : vp_in (x3 + 2) L) (i3 : vp_in (x3 + 3) L) (x : CRel h1 X) (y : MRel h2 X) (v : StV X) (kk : lwK p l e s m below meth c b D cA σ1 σ2 ls) : W p l e room_1 s m #[Value.ref b] below meth c H locs 600000 7302250 (lw_Z below #[Value.ref b] s) (F0 m 423 ls []) := by
  obtain ⟨hx, hb, hr, hml4, hown, htl, hX, hbl, hlocks, hgv⟩ := E.1
  have hts := f_of_lw htl
  have hbA : ¬ (fun q : Nat => s.heap.size ≤ q) b := Nat.not_le.mpr hbl
  obtain ⟨X', a, v', ok1, ok2⟩ := bo_loss x y v 
  refine lv_aload_n hx hb dL_423 rfl (lv_at hl 2 rfl) ?_
  refine lw_cL (Z := mX11_loss) (n := 0) (As := []) (rest := []) E hL_L_60 hI_X11_loss hS_X11_loss hC_X11_loss hN_X11 nX11_loss (by decide) rfl rfl rfl e1 ok1 w hS hl.1 (Nat.le_of_ble_eq_true rfl) dL_424 (fun r1 k1 H1 locs1 q1 w1 hS1 => ?_)
  obtain ⟨rfl, x1⟩ := q1
  refine lv_aload_n hx hb dL_427 rfl (lv_at hl 1 rfl) ?_
  refine lw_mL (Z := mX12_loss) (n := 0) (As := []) (rest := [.long r1]) E hL_L_64 hI_X12_loss hS_X12_loss hC_X12_loss hN_X12 nX12_loss (by decide) rfl rfl rfl e2 ok2 w1 hS1 hl.1 (Nat.le_of_ble_eq_true rfl) dL_428 (fun r2 k2 H2 locs2 q2 w2 hS2 => ?_)
  obtain ⟨rfl, x2⟩ := q2
  refine W.lcmp hx hb dL_431 ?_
  exact lv_if_eq (tgt := 914) hx hb dL_432 (by decide) (fun _ => kk _ _ _ _ _ x1 x2 v' w2 hS2) (fun q => absurd ((lc_eq _ _).mpr rfl) q)
theorem lw_k11 (E : lw_En p s m meth c b L xs D cA a0) (e1 : σ1 0 = a0) (e2 : σ2 0 = a0) (w : LWd D cA σ1 σ2 h1 h2 (fun q => s.heap.size ≤ q) H) (hS : va_S (fun q => s.heap.size ≤ q) s.heap H locs) (hl : lv_has ls 4 [(3, .int x3), (2, .ref (σ2 1)), (1, .ref (σ1 1)), (0, .ref b)]) (i1 : vp_in (x3 + 1) L) (i2 : vp_in (x3 + 2) L) (i3 : vp_in (x3 + 3) L) (x : CRel h1 X) (y : MRel h2 X) (v : StV X) (kk : lwK p l e s m below meth c b D cA σ1 σ2 ls) : W p l e room_1 s m #[Value.ref b] below meth c H locs 600000 7302250 (lw_Z below #[Value.ref b] s) (F0 m 437 ls []) := by
  obtain ⟨hx, hb, hr, hml4, hown, htl, hX, hbl, hlocks, hgv⟩ := E.1
  have hts := f_of_lw htl
  have hbA : ¬ (fun q : Nat => s.heap.size ≤ q) b := Nat.not_le.mpr hbl
  obtain ⟨X', a, v', ok1, ok2⟩ := bo_worst x y v 
  refine lv_aload_n hx hb dL_437 rfl (lv_at hl 2 rfl) ?_
  refine lw_cI (Z := mX11_worst) (n := 0) (As := []) (rest := []) E hL_L_65 hI_X11_worst hS_X11_worst hC_X11_worst hN_X11 nX11_worst (by decide) rfl rfl rfl e1 ok1 w hS hl.1 (Nat.le_of_ble_eq_true rfl) dL_438 (fun r1 k1 H1 locs1 q1 w1 hS1 => ?_)
  obtain ⟨rfl, x1⟩ := q1
  refine lv_aload_n hx hb dL_441 rfl (lv_at hl 1 rfl) ?_
  refine lw_mI (Z := mX12_worst) (n := 0) (As := []) (rest := [.int r1]) E hL_L_68 hI_X12_worst hS_X12_worst hC_X12_worst hN_X12 nX12_worst (by decide) rfl rfl rfl e2 ok2 w1 hS1 hl.1 (Nat.le_of_ble_eq_true rfl) dL_442 (fun r2 k2 H2 locs2 q2 w2 hS2 => ?_)
  obtain ⟨rfl, x2⟩ := q2
  exact lv_icmp_eq (tgt := 914) hx hb dL_445 (by decide) (fun _ => kk _ _ _ _ _ x1 x2 v' w2 hS2) (fun q => absurd rfl q)
theorem lw_k12 (E : lw_En p s m meth c b L xs D cA a0) (e1 : σ1 0 = a0) (e2 : σ2 0 = a0) (w : LWd D cA σ1 σ2 h1 h2 (fun q => s.heap.size ≤ q) H) (hS : va_S (fun q => s.heap.size ≤ q) s.heap H locs) (hl : lv_has ls 4 [(3, .int x3), (2, .ref (σ2 1)), (1, .ref (σ1 1)), (0, .ref b)]) (i1 : vp_in (x3 + 1) L) (i2 : vp_in (x3 + 2) L) (i3 : vp_in (x3 + 3) L) (x : CRel h1 X) (y : MRel h2 X) (v : StV X) (kk : lwK p l e s m below meth c b D cA σ1 σ2 ls) : W p l e room_1 s m #[Value.ref b] below meth c H locs 600000 7302250 (lw_Z below #[Value.ref b] s) (F0 m 450 ls []) := by
  obtain ⟨hx, hb, hr, hml4, hown, htl, hX, hbl, hlocks, hgv⟩ := E.1
  have hts := f_of_lw htl
  have hbA : ¬ (fun q : Nat => s.heap.size ≤ q) b := Nat.not_le.mpr hbl
  obtain ⟨X', a, v', ok1, ok2⟩ := bo_needs x y v ((((xs (x3 + 1).toNatClampNeg).toInt64 <<< ((32 : Int32).toInt64 &&& 63)) ||| ((xs (x3 + 2).toNatClampNeg).toInt64 &&& 4294967295)))
  refine lv_aload_n hx hb dL_450 rfl (lv_at hl 2 rfl) ?_
  refine lv_aload_n hx hb dL_451 rfl (lv_at hl 3 rfl) ?_
  refine lv_iload_n hx hb dL_452 rfl (lv_at hl 0 rfl) ?_
  refine lv_iconst (v := 1) hx hb dL_453 (by decide) ?_
  refine lv_iadd hx hb dL_454 ?_
  refine va_sld hx hb hX hbl hbA hS i1 dL_455 ?_
  refine lv_i2l hx hb dL_456 rfl ?_
  refine lv_bipush (v := 32) hx hb dL_457 (by decide) ?_
  refine lv_lshl hx hb dL_459 rfl ?_
  refine lv_aload_n hx hb dL_460 rfl (lv_at hl 3 rfl) ?_
  refine lv_iload_n hx hb dL_461 rfl (lv_at hl 0 rfl) ?_
  refine lv_iconst (v := 2) hx hb dL_462 (by decide) ?_
  refine lv_iadd hx hb dL_463 ?_
  refine va_sld hx hb hX hbl hbA hS i2 dL_464 ?_
  refine lv_i2l hx hb dL_465 rfl ?_
  refine lv_ldc2 hx hb hown (hts _ hK_L_69) dL_466 ?_
  refine lv_land hx hb dL_469 ?_
  refine lv_lor hx hb dL_470 ?_
  refine lw_cI (Z := mX11_needs) (n := 1) (As := [.long ((((xs (x3 + 1).toNatClampNeg).toInt64 <<< ((32 : Int32).toInt64 &&& 63)) ||| ((xs (x3 + 2).toNatClampNeg).toInt64 &&& 4294967295)))]) (rest := []) E hL_L_71 hI_X11_needs hS_X11_needs hC_X11_needs hN_X11 nX11_needs (by decide) rfl rfl rfl e1 ok1 w hS hl.1 (Nat.le_of_ble_eq_true rfl) dL_471 (fun r1 k1 H1 locs1 q1 w1 hS1 => ?_)
  obtain ⟨rfl, x1⟩ := q1
  refine lv_aload_n hx hb dL_474 rfl (lv_at hl 1 rfl) ?_
  refine lv_aload_n hx hb dL_475 rfl (lv_at hl 3 rfl) ?_
  refine lv_iload_n hx hb dL_476 rfl (lv_at hl 0 rfl) ?_
  refine lv_iconst (v := 1) hx hb dL_477 (by decide) ?_
  refine lv_iadd hx hb dL_478 ?_
  refine va_sld hx hb hX hbl hbA hS1 i1 dL_479 ?_
  refine lv_i2l hx hb dL_480 rfl ?_
  refine lv_bipush (v := 32) hx hb dL_481 (by decide) ?_
  refine lv_lshl hx hb dL_483 rfl ?_
  refine lv_aload_n hx hb dL_484 rfl (lv_at hl 3 rfl) ?_
  refine lv_iload_n hx hb dL_485 rfl (lv_at hl 0 rfl) ?_
  refine lv_iconst (v := 2) hx hb dL_486 (by decide) ?_
  refine lv_iadd hx hb dL_487 ?_
  refine va_sld hx hb hX hbl hbA hS1 i2 dL_488 ?_
  refine lv_i2l hx hb dL_489 rfl ?_
  refine lv_ldc2 hx hb hown (hts _ hK_L_69) dL_490 ?_
  refine lv_land hx hb dL_493 ?_
  refine lv_lor hx hb dL_494 ?_
  refine lw_mI (Z := mX12_needs) (n := 1) (As := [.long ((((xs (x3 + 1).toNatClampNeg).toInt64 <<< ((32 : Int32).toInt64 &&& 63)) ||| ((xs (x3 + 2).toNatClampNeg).toInt64 &&& 4294967295)))]) (rest := [.int r1]) E hL_L_75 hI_X12_needs hS_X12_needs hC_X12_needs hN_X12 nX12_needs (by decide) rfl rfl rfl e2 ok2 w1 hS1 hl.1 (Nat.le_of_ble_eq_true rfl) dL_495 (fun r2 k2 H2 locs2 q2 w2 hS2 => ?_)
  obtain ⟨rfl, x2⟩ := q2
  exact lv_icmp_eq (tgt := 914) hx hb dL_498 (by decide) (fun _ => kk _ _ _ _ _ x1 x2 v' w2 hS2) (fun q => absurd rfl q)
theorem lw_k13 (E : lw_En p s m meth c b L xs D cA a0) (e1 : σ1 0 = a0) (e2 : σ2 0 = a0) (w : LWd D cA σ1 σ2 h1 h2 (fun q => s.heap.size ≤ q) H) (hS : va_S (fun q => s.heap.size ≤ q) s.heap H locs) (hl : lv_has ls 4 [(3, .int x3), (2, .ref (σ2 1)), (1, .ref (σ1 1)), (0, .ref b)]) (i1 : vp_in (x3 + 1) L) (i2 : vp_in (x3 + 2) L) (i3 : vp_in (x3 + 3) L) (x : CRel h1 X) (y : MRel h2 X) (v : StV X) (kk : lwK p l e s m below meth c b D cA σ1 σ2 ls) : W p l e room_1 s m #[Value.ref b] below meth c H locs 600000 7302250 (lw_Z below #[Value.ref b] s) (F0 m 503 ls []) := by
  obtain ⟨hx, hb, hr, hml4, hown, htl, hX, hbl, hlocks, hgv⟩ := E.1
  have hts := f_of_lw htl
  have hbA : ¬ (fun q : Nat => s.heap.size ≤ q) b := Nat.not_le.mpr hbl
  obtain ⟨X', a, v', ok1, ok2⟩ := bo_term x y v ((((xs (x3 + 1).toNatClampNeg).toInt64 <<< ((32 : Int32).toInt64 &&& 63)) ||| ((xs (x3 + 2).toNatClampNeg).toInt64 &&& 4294967295)))
  refine lv_aload_n hx hb dL_503 rfl (lv_at hl 2 rfl) ?_
  refine lv_aload_n hx hb dL_504 rfl (lv_at hl 3 rfl) ?_
  refine lv_iload_n hx hb dL_505 rfl (lv_at hl 0 rfl) ?_
  refine lv_iconst (v := 1) hx hb dL_506 (by decide) ?_
  refine lv_iadd hx hb dL_507 ?_
  refine va_sld hx hb hX hbl hbA hS i1 dL_508 ?_
  refine lv_i2l hx hb dL_509 rfl ?_
  refine lv_bipush (v := 32) hx hb dL_510 (by decide) ?_
  refine lv_lshl hx hb dL_512 rfl ?_
  refine lv_aload_n hx hb dL_513 rfl (lv_at hl 3 rfl) ?_
  refine lv_iload_n hx hb dL_514 rfl (lv_at hl 0 rfl) ?_
  refine lv_iconst (v := 2) hx hb dL_515 (by decide) ?_
  refine lv_iadd hx hb dL_516 ?_
  refine va_sld hx hb hX hbl hbA hS i2 dL_517 ?_
  refine lv_i2l hx hb dL_518 rfl ?_
  refine lv_ldc2 hx hb hown (hts _ hK_L_69) dL_519 ?_
  refine lv_land hx hb dL_522 ?_
  refine lv_lor hx hb dL_523 ?_
  refine lw_cI (Z := mX11_term) (n := 1) (As := [.long ((((xs (x3 + 1).toNatClampNeg).toInt64 <<< ((32 : Int32).toInt64 &&& 63)) ||| ((xs (x3 + 2).toNatClampNeg).toInt64 &&& 4294967295)))]) (rest := []) E hL_L_76 hI_X11_term hS_X11_term hC_X11_term hN_X11 nX11_term (by decide) rfl rfl rfl e1 ok1 w hS hl.1 (Nat.le_of_ble_eq_true rfl) dL_524 (fun r1 k1 H1 locs1 q1 w1 hS1 => ?_)
  obtain ⟨rfl, x1⟩ := q1
  refine lv_aload_n hx hb dL_527 rfl (lv_at hl 1 rfl) ?_
  refine lv_aload_n hx hb dL_528 rfl (lv_at hl 3 rfl) ?_
  refine lv_iload_n hx hb dL_529 rfl (lv_at hl 0 rfl) ?_
  refine lv_iconst (v := 1) hx hb dL_530 (by decide) ?_
  refine lv_iadd hx hb dL_531 ?_
  refine va_sld hx hb hX hbl hbA hS1 i1 dL_532 ?_
  refine lv_i2l hx hb dL_533 rfl ?_
  refine lv_bipush (v := 32) hx hb dL_534 (by decide) ?_
  refine lv_lshl hx hb dL_536 rfl ?_
  refine lv_aload_n hx hb dL_537 rfl (lv_at hl 3 rfl) ?_
  refine lv_iload_n hx hb dL_538 rfl (lv_at hl 0 rfl) ?_
  refine lv_iconst (v := 2) hx hb dL_539 (by decide) ?_
  refine lv_iadd hx hb dL_540 ?_
  refine va_sld hx hb hX hbl hbA hS1 i2 dL_541 ?_
  refine lv_i2l hx hb dL_542 rfl ?_
  refine lv_ldc2 hx hb hown (hts _ hK_L_69) dL_543 ?_
  refine lv_land hx hb dL_546 ?_
  refine lv_lor hx hb dL_547 ?_
  refine lw_mI (Z := mX12_term) (n := 1) (As := [.long ((((xs (x3 + 1).toNatClampNeg).toInt64 <<< ((32 : Int32).toInt64 &&& 63)) ||| ((xs (x3 + 2).toNatClampNeg).toInt64 &&& 4294967295)))]) (rest := [.int r1]) E hL_L_79 hI_X12_term hS_X12_term hC_X12_term hN_X12 nX12_term (by decide) rfl rfl rfl e2 ok2 w1 hS1 hl.1 (Nat.le_of_ble_eq_true rfl) dL_548 (fun r2 k2 H2 locs2 q2 w2 hS2 => ?_)
  obtain ⟨rfl, x2⟩ := q2
  exact lv_icmp_eq (tgt := 914) hx hb dL_551 (by decide) (fun _ => kk _ _ _ _ _ x1 x2 v' w2 hS2) (fun q => absurd rfl q)
theorem lw_k14 (E : lw_En p s m meth c b L xs D cA a0) (e1 : σ1 0 = a0) (e2 : σ2 0 = a0) (w : LWd D cA σ1 σ2 h1 h2 (fun q => s.heap.size ≤ q) H) (hS : va_S (fun q => s.heap.size ≤ q) s.heap H locs) (hl : lv_has ls 4 [(3, .int x3), (2, .ref (σ2 1)), (1, .ref (σ1 1)), (0, .ref b)]) (i1 : vp_in (x3 + 1) L) (i2 : vp_in (x3 + 2) L) (i3 : vp_in (x3 + 3) L) (x : CRel h1 X) (y : MRel h2 X) (v : StV X) (kk : lwK p l e s m below meth c b D cA σ1 σ2 ls) : W p l e room_1 s m #[Value.ref b] below meth c H locs 600000 7302250 (lw_Z below #[Value.ref b] s) (F0 m 556 ls []) := by
  obtain ⟨hx, hb, hr, hml4, hown, htl, hX, hbl, hlocks, hgv⟩ := E.1
  have hts := f_of_lw htl
  have hbA : ¬ (fun q : Nat => s.heap.size ≤ q) b := Nat.not_le.mpr hbl
  obtain ⟨X', a, v', ok1, ok2⟩ := bo_clear x y v 
  refine lv_aload_n hx hb dL_556 rfl (lv_at hl 2 rfl) ?_
  refine lw_cI (Z := mX11_clear) (n := 0) (As := []) (rest := []) E hL_L_80 hI_X11_clear hS_X11_clear hC_X11_clear hN_X11 nX11_clear (by decide) rfl rfl rfl e1 ok1 w hS hl.1 (Nat.le_of_ble_eq_true rfl) dL_557 (fun r1 k1 H1 locs1 q1 w1 hS1 => ?_)
  obtain ⟨rfl, x1⟩ := q1
  refine lv_aload_n hx hb dL_560 rfl (lv_at hl 1 rfl) ?_
  refine lw_mI (Z := mX12_clear) (n := 0) (As := []) (rest := [.int r1]) E hL_L_83 hI_X12_clear hS_X12_clear hC_X12_clear hN_X12 nX12_clear (by decide) rfl rfl rfl e2 ok2 w1 hS1 hl.1 (Nat.le_of_ble_eq_true rfl) dL_561 (fun r2 k2 H2 locs2 q2 w2 hS2 => ?_)
  obtain ⟨rfl, x2⟩ := q2
  exact lv_icmp_eq (tgt := 914) hx hb dL_564 (by decide) (fun _ => kk _ _ _ _ _ x1 x2 v' w2 hS2) (fun q => absurd rfl q)
theorem lw_k15 (E : lw_En p s m meth c b L xs D cA a0) (e1 : σ1 0 = a0) (e2 : σ2 0 = a0) (w : LWd D cA σ1 σ2 h1 h2 (fun q => s.heap.size ≤ q) H) (hS : va_S (fun q => s.heap.size ≤ q) s.heap H locs) (hl : lv_has ls 4 [(3, .int x3), (2, .ref (σ2 1)), (1, .ref (σ1 1)), (0, .ref b)]) (i1 : vp_in (x3 + 1) L) (i2 : vp_in (x3 + 2) L) (i3 : vp_in (x3 + 3) L) (x : CRel h1 X) (y : MRel h2 X) (v : StV X) (kk : lwK p l e s m below meth c b D cA σ1 σ2 ls) : W p l e room_1 s m #[Value.ref b] below meth c H locs 600000 7302250 (lw_Z below #[Value.ref b] s) (F0 m 569 ls []) := by
  obtain ⟨hx, hb, hr, hml4, hown, htl, hX, hbl, hlocks, hgv⟩ := E.1
  have hts := f_of_lw htl
  have hbA : ¬ (fun q : Nat => s.heap.size ≤ q) b := Nat.not_le.mpr hbl
  obtain ⟨X', a, v', ok1, ok2⟩ := bo_about x y v (xs (x3 + 1).toNatClampNeg)
  refine lv_aload_n hx hb dL_569 rfl (lv_at hl 2 rfl) ?_
  refine lv_aload_n hx hb dL_570 rfl (lv_at hl 3 rfl) ?_
  refine lv_iload_n hx hb dL_571 rfl (lv_at hl 0 rfl) ?_
  refine lv_iconst (v := 1) hx hb dL_572 (by decide) ?_
  refine lv_iadd hx hb dL_573 ?_
  refine va_sld hx hb hX hbl hbA hS i1 dL_574 ?_
  refine lw_cL (Z := mX11_about) (n := 1) (As := [.int (xs (x3 + 1).toNatClampNeg)]) (rest := []) E hL_L_84 hI_X11_about hS_X11_about hC_X11_about hN_X11 nX11_about (by decide) rfl rfl rfl e1 ok1 w hS hl.1 (Nat.le_of_ble_eq_true rfl) dL_575 (fun r1 k1 H1 locs1 q1 w1 hS1 => ?_)
  obtain ⟨rfl, x1⟩ := q1
  refine lv_aload_n hx hb dL_578 rfl (lv_at hl 1 rfl) ?_
  refine lv_aload_n hx hb dL_579 rfl (lv_at hl 3 rfl) ?_
  refine lv_iload_n hx hb dL_580 rfl (lv_at hl 0 rfl) ?_
  refine lv_iconst (v := 1) hx hb dL_581 (by decide) ?_
  refine lv_iadd hx hb dL_582 ?_
  refine va_sld hx hb hX hbl hbA hS1 i1 dL_583 ?_
  refine lw_mL (Z := mX12_about) (n := 1) (As := [.int (xs (x3 + 1).toNatClampNeg)]) (rest := [.long r1]) E hL_L_87 hI_X12_about hS_X12_about hC_X12_about hN_X12 nX12_about (by decide) rfl rfl rfl e2 ok2 w1 hS1 hl.1 (Nat.le_of_ble_eq_true rfl) dL_584 (fun r2 k2 H2 locs2 q2 w2 hS2 => ?_)
  obtain ⟨rfl, x2⟩ := q2
  refine W.lcmp hx hb dL_587 ?_
  exact lv_if_eq (tgt := 914) hx hb dL_588 (by decide) (fun _ => kk _ _ _ _ _ x1 x2 v' w2 hS2) (fun q => absurd ((lc_eq _ _).mpr rfl) q)
theorem lw_k16 (E : lw_En p s m meth c b L xs D cA a0) (e1 : σ1 0 = a0) (e2 : σ2 0 = a0) (w : LWd D cA σ1 σ2 h1 h2 (fun q => s.heap.size ≤ q) H) (hS : va_S (fun q => s.heap.size ≤ q) s.heap H locs) (hl : lv_has ls 4 [(3, .int x3), (2, .ref (σ2 1)), (1, .ref (σ1 1)), (0, .ref b)]) (i1 : vp_in (x3 + 1) L) (i2 : vp_in (x3 + 2) L) (i3 : vp_in (x3 + 3) L) (x : CRel h1 X) (y : MRel h2 X) (v : StV X) (kk : lwK p l e s m below meth c b D cA σ1 σ2 ls) : W p l e room_1 s m #[Value.ref b] below meth c H locs 600000 7302250 (lw_Z below #[Value.ref b] s) (F0 m 593 ls []) := by
  obtain ⟨hx, hb, hr, hml4, hown, htl, hX, hbl, hlocks, hgv⟩ := E.1
  have hts := f_of_lw htl
  have hbA : ¬ (fun q : Nat => s.heap.size ≤ q) b := Nat.not_le.mpr hbl
  obtain ⟨X', a, v', ok1, ok2⟩ := bo_sum x y v (xs (x3 + 1).toNatClampNeg)
  refine lv_aload_n hx hb dL_593 rfl (lv_at hl 2 rfl) ?_
  refine lv_aload_n hx hb dL_594 rfl (lv_at hl 3 rfl) ?_
  refine lv_iload_n hx hb dL_595 rfl (lv_at hl 0 rfl) ?_
  refine lv_iconst (v := 1) hx hb dL_596 (by decide) ?_
  refine lv_iadd hx hb dL_597 ?_
  refine va_sld hx hb hX hbl hbA hS i1 dL_598 ?_
  refine lw_cL (Z := mX11_sum) (n := 1) (As := [.int (xs (x3 + 1).toNatClampNeg)]) (rest := []) E hL_L_88 hI_X11_sum hS_X11_sum hC_X11_sum hN_X11 nX11_sum (by decide) rfl rfl rfl e1 ok1 w hS hl.1 (Nat.le_of_ble_eq_true rfl) dL_599 (fun r1 k1 H1 locs1 q1 w1 hS1 => ?_)
  obtain ⟨rfl, x1⟩ := q1
  refine lv_aload_n hx hb dL_602 rfl (lv_at hl 1 rfl) ?_
  refine lv_aload_n hx hb dL_603 rfl (lv_at hl 3 rfl) ?_
  refine lv_iload_n hx hb dL_604 rfl (lv_at hl 0 rfl) ?_
  refine lv_iconst (v := 1) hx hb dL_605 (by decide) ?_
  refine lv_iadd hx hb dL_606 ?_
  refine va_sld hx hb hX hbl hbA hS1 i1 dL_607 ?_
  refine lw_mL (Z := mX12_sum) (n := 1) (As := [.int (xs (x3 + 1).toNatClampNeg)]) (rest := [.long r1]) E hL_L_91 hI_X12_sum hS_X12_sum hC_X12_sum hN_X12 nX12_sum (by decide) rfl rfl rfl e2 ok2 w1 hS1 hl.1 (Nat.le_of_ble_eq_true rfl) dL_608 (fun r2 k2 H2 locs2 q2 w2 hS2 => ?_)
  obtain ⟨rfl, x2⟩ := q2
  refine W.lcmp hx hb dL_611 ?_
  exact lv_if_eq (tgt := 914) hx hb dL_612 (by decide) (fun _ => kk _ _ _ _ _ x1 x2 v' w2 hS2) (fun q => absurd ((lc_eq _ _).mpr rfl) q)
theorem lw_k17 (E : lw_En p s m meth c b L xs D cA a0) (e1 : σ1 0 = a0) (e2 : σ2 0 = a0) (w : LWd D cA σ1 σ2 h1 h2 (fun q => s.heap.size ≤ q) H) (hS : va_S (fun q => s.heap.size ≤ q) s.heap H locs) (hl : lv_has ls 4 [(3, .int x3), (2, .ref (σ2 1)), (1, .ref (σ1 1)), (0, .ref b)]) (i1 : vp_in (x3 + 1) L) (i2 : vp_in (x3 + 2) L) (i3 : vp_in (x3 + 3) L) (x : CRel h1 X) (y : MRel h2 X) (v : StV X) (kk : lwK p l e s m below meth c b D cA σ1 σ2 ls) : W p l e room_1 s m #[Value.ref b] below meth c H locs 600000 7302250 (lw_Z below #[Value.ref b] s) (F0 m 617 ls []) := by
  obtain ⟨hx, hb, hr, hml4, hown, htl, hX, hbl, hlocks, hgv⟩ := E.1
  have hts := f_of_lw htl
  have hbA : ¬ (fun q : Nat => s.heap.size ≤ q) b := Nat.not_le.mpr hbl
  obtain ⟨X', a, v', ok1, ok2⟩ := bo_orders x y v (xs (x3 + 1).toNatClampNeg)
  refine lv_aload_n hx hb dL_617 rfl (lv_at hl 2 rfl) ?_
  refine lv_aload_n hx hb dL_618 rfl (lv_at hl 3 rfl) ?_
  refine lv_iload_n hx hb dL_619 rfl (lv_at hl 0 rfl) ?_
  refine lv_iconst (v := 1) hx hb dL_620 (by decide) ?_
  refine lv_iadd hx hb dL_621 ?_
  refine va_sld hx hb hX hbl hbA hS i1 dL_622 ?_
  refine lw_cL (Z := mX11_orders) (n := 1) (As := [.int (xs (x3 + 1).toNatClampNeg)]) (rest := []) E hL_L_92 hI_X11_orders hS_X11_orders hC_X11_orders hN_X11 nX11_orders (by decide) rfl rfl rfl e1 ok1 w hS hl.1 (Nat.le_of_ble_eq_true rfl) dL_623 (fun r1 k1 H1 locs1 q1 w1 hS1 => ?_)
  obtain ⟨rfl, x1⟩ := q1
  refine lv_aload_n hx hb dL_626 rfl (lv_at hl 1 rfl) ?_
  refine lv_aload_n hx hb dL_627 rfl (lv_at hl 3 rfl) ?_
  refine lv_iload_n hx hb dL_628 rfl (lv_at hl 0 rfl) ?_
  refine lv_iconst (v := 1) hx hb dL_629 (by decide) ?_
  refine lv_iadd hx hb dL_630 ?_
  refine va_sld hx hb hX hbl hbA hS1 i1 dL_631 ?_
  refine lw_mL (Z := mX12_orders) (n := 1) (As := [.int (xs (x3 + 1).toNatClampNeg)]) (rest := [.long r1]) E hL_L_95 hI_X12_orders hS_X12_orders hC_X12_orders hN_X12 nX12_orders (by decide) rfl rfl rfl e2 ok2 w1 hS1 hl.1 (Nat.le_of_ble_eq_true rfl) dL_632 (fun r2 k2 H2 locs2 q2 w2 hS2 => ?_)
  obtain ⟨rfl, x2⟩ := q2
  refine W.lcmp hx hb dL_635 ?_
  exact lv_if_eq (tgt := 914) hx hb dL_636 (by decide) (fun _ => kk _ _ _ _ _ x1 x2 v' w2 hS2) (fun q => absurd ((lc_eq _ _).mpr rfl) q)
theorem lw_k18 (E : lw_En p s m meth c b L xs D cA a0) (e1 : σ1 0 = a0) (e2 : σ2 0 = a0) (w : LWd D cA σ1 σ2 h1 h2 (fun q => s.heap.size ≤ q) H) (hS : va_S (fun q => s.heap.size ≤ q) s.heap H locs) (hl : lv_has ls 4 [(3, .int x3), (2, .ref (σ2 1)), (1, .ref (σ1 1)), (0, .ref b)]) (i1 : vp_in (x3 + 1) L) (i2 : vp_in (x3 + 2) L) (i3 : vp_in (x3 + 3) L) (x : CRel h1 X) (y : MRel h2 X) (v : StV X) (kk : lwK p l e s m below meth c b D cA σ1 σ2 ls) : W p l e room_1 s m #[Value.ref b] below meth c H locs 600000 7302250 (lw_Z below #[Value.ref b] s) (F0 m 641 ls []) := by
  obtain ⟨hx, hb, hr, hml4, hown, htl, hX, hbl, hlocks, hgv⟩ := E.1
  have hts := f_of_lw htl
  have hbA : ¬ (fun q : Nat => s.heap.size ≤ q) b := Nat.not_le.mpr hbl
  obtain ⟨X', a, v', ok1, ok2⟩ := bo_order x y v (xs (x3 + 1).toNatClampNeg) (xs (x3 + 2).toNatClampNeg)
  refine lv_aload_n hx hb dL_641 rfl (lv_at hl 2 rfl) ?_
  refine lv_aload_n hx hb dL_642 rfl (lv_at hl 3 rfl) ?_
  refine lv_iload_n hx hb dL_643 rfl (lv_at hl 0 rfl) ?_
  refine lv_iconst (v := 1) hx hb dL_644 (by decide) ?_
  refine lv_iadd hx hb dL_645 ?_
  refine va_sld hx hb hX hbl hbA hS i1 dL_646 ?_
  refine lv_aload_n hx hb dL_647 rfl (lv_at hl 3 rfl) ?_
  refine lv_iload_n hx hb dL_648 rfl (lv_at hl 0 rfl) ?_
  refine lv_iconst (v := 2) hx hb dL_649 (by decide) ?_
  refine lv_iadd hx hb dL_650 ?_
  refine va_sld hx hb hX hbl hbA hS i2 dL_651 ?_
  refine lw_cI (Z := mX11_order) (n := 2) (As := [.int (xs (x3 + 1).toNatClampNeg), .int (xs (x3 + 2).toNatClampNeg)]) (rest := []) E hL_L_96 hI_X11_order hS_X11_order hC_X11_order hN_X11 nX11_order (by decide) rfl rfl rfl e1 ok1 w hS hl.1 (Nat.le_of_ble_eq_true rfl) dL_652 (fun r1 k1 H1 locs1 q1 w1 hS1 => ?_)
  obtain ⟨rfl, x1⟩ := q1
  refine lv_aload_n hx hb dL_655 rfl (lv_at hl 1 rfl) ?_
  refine lv_aload_n hx hb dL_656 rfl (lv_at hl 3 rfl) ?_
  refine lv_iload_n hx hb dL_657 rfl (lv_at hl 0 rfl) ?_
  refine lv_iconst (v := 1) hx hb dL_658 (by decide) ?_
  refine lv_iadd hx hb dL_659 ?_
  refine va_sld hx hb hX hbl hbA hS1 i1 dL_660 ?_
  refine lv_aload_n hx hb dL_661 rfl (lv_at hl 3 rfl) ?_
  refine lv_iload_n hx hb dL_662 rfl (lv_at hl 0 rfl) ?_
  refine lv_iconst (v := 2) hx hb dL_663 (by decide) ?_
  refine lv_iadd hx hb dL_664 ?_
  refine va_sld hx hb hX hbl hbA hS1 i2 dL_665 ?_
  refine lw_mI (Z := mX12_order) (n := 2) (As := [.int (xs (x3 + 1).toNatClampNeg), .int (xs (x3 + 2).toNatClampNeg)]) (rest := [.int r1]) E hL_L_99 hI_X12_order hS_X12_order hC_X12_order hN_X12 nX12_order (by decide) rfl rfl rfl e2 ok2 w1 hS1 hl.1 (Nat.le_of_ble_eq_true rfl) dL_666 (fun r2 k2 H2 locs2 q2 w2 hS2 => ?_)
  obtain ⟨rfl, x2⟩ := q2
  exact lv_icmp_eq (tgt := 914) hx hb dL_669 (by decide) (fun _ => kk _ _ _ _ _ x1 x2 v' w2 hS2) (fun q => absurd rfl q)
theorem lw_k19 (E : lw_En p s m meth c b L xs D cA a0) (e1 : σ1 0 = a0) (e2 : σ2 0 = a0) (w : LWd D cA σ1 σ2 h1 h2 (fun q => s.heap.size ≤ q) H) (hS : va_S (fun q => s.heap.size ≤ q) s.heap H locs) (hl : lv_has ls 4 [(3, .int x3), (2, .ref (σ2 1)), (1, .ref (σ1 1)), (0, .ref b)]) (i1 : vp_in (x3 + 1) L) (i2 : vp_in (x3 + 2) L) (i3 : vp_in (x3 + 3) L) (x : CRel h1 X) (y : MRel h2 X) (v : StV X) (kk : lwK p l e s m below meth c b D cA σ1 σ2 ls) : W p l e room_1 s m #[Value.ref b] below meth c H locs 600000 7302250 (lw_Z below #[Value.ref b] s) (F0 m 674 ls []) := by
  obtain ⟨hx, hb, hr, hml4, hown, htl, hX, hbl, hlocks, hgv⟩ := E.1
  have hts := f_of_lw htl
  have hbA : ¬ (fun q : Nat => s.heap.size ≤ q) b := Nat.not_le.mpr hbl
  obtain ⟨X', a, v', ok1, ok2⟩ := bo_bounds x y v (xs (x3 + 1).toNatClampNeg)
  refine lv_aload_n hx hb dL_674 rfl (lv_at hl 2 rfl) ?_
  refine lv_aload_n hx hb dL_675 rfl (lv_at hl 3 rfl) ?_
  refine lv_iload_n hx hb dL_676 rfl (lv_at hl 0 rfl) ?_
  refine lv_iconst (v := 1) hx hb dL_677 (by decide) ?_
  refine lv_iadd hx hb dL_678 ?_
  refine va_sld hx hb hX hbl hbA hS i1 dL_679 ?_
  refine lw_cL (Z := mX11_bounds) (n := 1) (As := [.int (xs (x3 + 1).toNatClampNeg)]) (rest := []) E hL_L_100 hI_X11_bounds hS_X11_bounds hC_X11_bounds hN_X11 nX11_bounds (by decide) rfl rfl rfl e1 ok1 w hS hl.1 (Nat.le_of_ble_eq_true rfl) dL_680 (fun r1 k1 H1 locs1 q1 w1 hS1 => ?_)
  obtain ⟨rfl, x1⟩ := q1
  refine lv_aload_n hx hb dL_683 rfl (lv_at hl 1 rfl) ?_
  refine lv_aload_n hx hb dL_684 rfl (lv_at hl 3 rfl) ?_
  refine lv_iload_n hx hb dL_685 rfl (lv_at hl 0 rfl) ?_
  refine lv_iconst (v := 1) hx hb dL_686 (by decide) ?_
  refine lv_iadd hx hb dL_687 ?_
  refine va_sld hx hb hX hbl hbA hS1 i1 dL_688 ?_
  refine lw_mL (Z := mX12_bounds) (n := 1) (As := [.int (xs (x3 + 1).toNatClampNeg)]) (rest := [.long r1]) E hL_L_103 hI_X12_bounds hS_X12_bounds hC_X12_bounds hN_X12 nX12_bounds (by decide) rfl rfl rfl e2 ok2 w1 hS1 hl.1 (Nat.le_of_ble_eq_true rfl) dL_689 (fun r2 k2 H2 locs2 q2 w2 hS2 => ?_)
  obtain ⟨rfl, x2⟩ := q2
  refine W.lcmp hx hb dL_692 ?_
  exact lv_if_eq (tgt := 914) hx hb dL_693 (by decide) (fun _ => kk _ _ _ _ _ x1 x2 v' w2 hS2) (fun q => absurd ((lc_eq _ _).mpr rfl) q)
theorem lw_k20 (E : lw_En p s m meth c b L xs D cA a0) (e1 : σ1 0 = a0) (e2 : σ2 0 = a0) (w : LWd D cA σ1 σ2 h1 h2 (fun q => s.heap.size ≤ q) H) (hS : va_S (fun q => s.heap.size ≤ q) s.heap H locs) (hl : lv_has ls 4 [(3, .int x3), (2, .ref (σ2 1)), (1, .ref (σ1 1)), (0, .ref b)]) (i1 : vp_in (x3 + 1) L) (i2 : vp_in (x3 + 2) L) (i3 : vp_in (x3 + 3) L) (x : CRel h1 X) (y : MRel h2 X) (v : StV X) (kk : lwK p l e s m below meth c b D cA σ1 σ2 ls) : W p l e room_1 s m #[Value.ref b] below meth c H locs 600000 7302250 (lw_Z below #[Value.ref b] s) (F0 m 698 ls []) := by
  obtain ⟨hx, hb, hr, hml4, hown, htl, hX, hbl, hlocks, hgv⟩ := E.1
  have hts := f_of_lw htl
  have hbA : ¬ (fun q : Nat => s.heap.size ≤ q) b := Nat.not_le.mpr hbl
  obtain ⟨X', a, v', ok1, ok2⟩ := bo_truth x y v (xs (x3 + 1).toNatClampNeg)
  refine lv_aload_n hx hb dL_698 rfl (lv_at hl 2 rfl) ?_
  refine lv_aload_n hx hb dL_699 rfl (lv_at hl 3 rfl) ?_
  refine lv_iload_n hx hb dL_700 rfl (lv_at hl 0 rfl) ?_
  refine lv_iconst (v := 1) hx hb dL_701 (by decide) ?_
  refine lv_iadd hx hb dL_702 ?_
  refine va_sld hx hb hX hbl hbA hS i1 dL_703 ?_
  refine lw_cL (Z := mX11_truth) (n := 1) (As := [.int (xs (x3 + 1).toNatClampNeg)]) (rest := []) E hL_L_104 hI_X11_truth hS_X11_truth hC_X11_truth hN_X11 nX11_truth (by decide) rfl rfl rfl e1 ok1 w hS hl.1 (Nat.le_of_ble_eq_true rfl) dL_704 (fun r1 k1 H1 locs1 q1 w1 hS1 => ?_)
  obtain ⟨rfl, x1⟩ := q1
  refine lv_aload_n hx hb dL_707 rfl (lv_at hl 1 rfl) ?_
  refine lv_aload_n hx hb dL_708 rfl (lv_at hl 3 rfl) ?_
  refine lv_iload_n hx hb dL_709 rfl (lv_at hl 0 rfl) ?_
  refine lv_iconst (v := 1) hx hb dL_710 (by decide) ?_
  refine lv_iadd hx hb dL_711 ?_
  refine va_sld hx hb hX hbl hbA hS1 i1 dL_712 ?_
  refine lw_mL (Z := mX12_truth) (n := 1) (As := [.int (xs (x3 + 1).toNatClampNeg)]) (rest := [.long r1]) E hL_L_107 hI_X12_truth hS_X12_truth hC_X12_truth hN_X12 nX12_truth (by decide) rfl rfl rfl e2 ok2 w1 hS1 hl.1 (Nat.le_of_ble_eq_true rfl) dL_713 (fun r2 k2 H2 locs2 q2 w2 hS2 => ?_)
  obtain ⟨rfl, x2⟩ := q2
  refine W.lcmp hx hb dL_716 ?_
  exact lv_if_eq (tgt := 914) hx hb dL_717 (by decide) (fun _ => kk _ _ _ _ _ x1 x2 v' w2 hS2) (fun q => absurd ((lc_eq _ _).mpr rfl) q)
theorem lw_k21 (E : lw_En p s m meth c b L xs D cA a0) (e1 : σ1 0 = a0) (e2 : σ2 0 = a0) (w : LWd D cA σ1 σ2 h1 h2 (fun q => s.heap.size ≤ q) H) (hS : va_S (fun q => s.heap.size ≤ q) s.heap H locs) (hl : lv_has ls 4 [(3, .int x3), (2, .ref (σ2 1)), (1, .ref (σ1 1)), (0, .ref b)]) (i1 : vp_in (x3 + 1) L) (i2 : vp_in (x3 + 2) L) (i3 : vp_in (x3 + 3) L) (x : CRel h1 X) (y : MRel h2 X) (v : StV X) (kk : lwK p l e s m below meth c b D cA σ1 σ2 ls) : W p l e room_1 s m #[Value.ref b] below meth c H locs 600000 7302250 (lw_Z below #[Value.ref b] s) (F0 m 722 ls []) := by
  obtain ⟨hx, hb, hr, hml4, hown, htl, hX, hbl, hlocks, hgv⟩ := E.1
  have hts := f_of_lw htl
  have hbA : ¬ (fun q : Nat => s.heap.size ≤ q) b := Nat.not_le.mpr hbl
  obtain ⟨X', a, v', ok1, ok2⟩ := bo_fits x y v (xs (x3 + 1).toNatClampNeg) (xs (x3 + 2).toNatClampNeg)
  refine lv_aload_n hx hb dL_722 rfl (lv_at hl 2 rfl) ?_
  refine lv_aload_n hx hb dL_723 rfl (lv_at hl 3 rfl) ?_
  refine lv_iload_n hx hb dL_724 rfl (lv_at hl 0 rfl) ?_
  refine lv_iconst (v := 1) hx hb dL_725 (by decide) ?_
  refine lv_iadd hx hb dL_726 ?_
  refine va_sld hx hb hX hbl hbA hS i1 dL_727 ?_
  refine lv_aload_n hx hb dL_728 rfl (lv_at hl 3 rfl) ?_
  refine lv_iload_n hx hb dL_729 rfl (lv_at hl 0 rfl) ?_
  refine lv_iconst (v := 2) hx hb dL_730 (by decide) ?_
  refine lv_iadd hx hb dL_731 ?_
  refine va_sld hx hb hX hbl hbA hS i2 dL_732 ?_
  refine lw_cI (Z := mX11_fits) (n := 2) (As := [.int (xs (x3 + 1).toNatClampNeg), .int (xs (x3 + 2).toNatClampNeg)]) (rest := []) E hL_L_108 hI_X11_fits hS_X11_fits hC_X11_fits hN_X11 nX11_fits (by decide) rfl rfl rfl e1 ok1 w hS hl.1 (Nat.le_of_ble_eq_true rfl) dL_733 (fun r1 k1 H1 locs1 q1 w1 hS1 => ?_)
  obtain ⟨rfl, x1⟩ := q1
  refine lv_aload_n hx hb dL_736 rfl (lv_at hl 1 rfl) ?_
  refine lv_aload_n hx hb dL_737 rfl (lv_at hl 3 rfl) ?_
  refine lv_iload_n hx hb dL_738 rfl (lv_at hl 0 rfl) ?_
  refine lv_iconst (v := 1) hx hb dL_739 (by decide) ?_
  refine lv_iadd hx hb dL_740 ?_
  refine va_sld hx hb hX hbl hbA hS1 i1 dL_741 ?_
  refine lv_aload_n hx hb dL_742 rfl (lv_at hl 3 rfl) ?_
  refine lv_iload_n hx hb dL_743 rfl (lv_at hl 0 rfl) ?_
  refine lv_iconst (v := 2) hx hb dL_744 (by decide) ?_
  refine lv_iadd hx hb dL_745 ?_
  refine va_sld hx hb hX hbl hbA hS1 i2 dL_746 ?_
  refine lw_mI (Z := mX12_fits) (n := 2) (As := [.int (xs (x3 + 1).toNatClampNeg), .int (xs (x3 + 2).toNatClampNeg)]) (rest := [.int r1]) E hL_L_111 hI_X12_fits hS_X12_fits hC_X12_fits hN_X12 nX12_fits (by decide) rfl rfl rfl e2 ok2 w1 hS1 hl.1 (Nat.le_of_ble_eq_true rfl) dL_747 (fun r2 k2 H2 locs2 q2 w2 hS2 => ?_)
  obtain ⟨rfl, x2⟩ := q2
  exact lv_icmp_eq (tgt := 914) hx hb dL_750 (by decide) (fun _ => kk _ _ _ _ _ x1 x2 v' w2 hS2) (fun q => absurd rfl q)
theorem lw_k22 (E : lw_En p s m meth c b L xs D cA a0) (e1 : σ1 0 = a0) (e2 : σ2 0 = a0) (w : LWd D cA σ1 σ2 h1 h2 (fun q => s.heap.size ≤ q) H) (hS : va_S (fun q => s.heap.size ≤ q) s.heap H locs) (hl : lv_has ls 4 [(3, .int x3), (2, .ref (σ2 1)), (1, .ref (σ1 1)), (0, .ref b)]) (i1 : vp_in (x3 + 1) L) (i2 : vp_in (x3 + 2) L) (i3 : vp_in (x3 + 3) L) (x : CRel h1 X) (y : MRel h2 X) (v : StV X) (kk : lwK p l e s m below meth c b D cA σ1 σ2 ls) : W p l e room_1 s m #[Value.ref b] below meth c H locs 600000 7302250 (lw_Z below #[Value.ref b] s) (F0 m 755 ls []) := by
  obtain ⟨hx, hb, hr, hml4, hown, htl, hX, hbl, hlocks, hgv⟩ := E.1
  have hts := f_of_lw htl
  have hbA : ¬ (fun q : Nat => s.heap.size ≤ q) b := Nat.not_le.mpr hbl
  obtain ⟨X', a, v', ok1, ok2⟩ := bo_change x y v (xs (x3 + 1).toNatClampNeg) (xs (x3 + 2).toNatClampNeg)
  refine lv_aload_n hx hb dL_755 rfl (lv_at hl 2 rfl) ?_
  refine lv_aload_n hx hb dL_756 rfl (lv_at hl 3 rfl) ?_
  refine lv_iload_n hx hb dL_757 rfl (lv_at hl 0 rfl) ?_
  refine lv_iconst (v := 1) hx hb dL_758 (by decide) ?_
  refine lv_iadd hx hb dL_759 ?_
  refine va_sld hx hb hX hbl hbA hS i1 dL_760 ?_
  refine lv_aload_n hx hb dL_761 rfl (lv_at hl 3 rfl) ?_
  refine lv_iload_n hx hb dL_762 rfl (lv_at hl 0 rfl) ?_
  refine lv_iconst (v := 2) hx hb dL_763 (by decide) ?_
  refine lv_iadd hx hb dL_764 ?_
  refine va_sld hx hb hX hbl hbA hS i2 dL_765 ?_
  refine lw_cI (Z := mX11_change) (n := 2) (As := [.int (xs (x3 + 1).toNatClampNeg), .int (xs (x3 + 2).toNatClampNeg)]) (rest := []) E hL_L_112 hI_X11_change hS_X11_change hC_X11_change hN_X11 nX11_change (by decide) rfl rfl rfl e1 ok1 w hS hl.1 (Nat.le_of_ble_eq_true rfl) dL_766 (fun r1 k1 H1 locs1 q1 w1 hS1 => ?_)
  obtain ⟨rfl, x1⟩ := q1
  refine lv_aload_n hx hb dL_769 rfl (lv_at hl 1 rfl) ?_
  refine lv_aload_n hx hb dL_770 rfl (lv_at hl 3 rfl) ?_
  refine lv_iload_n hx hb dL_771 rfl (lv_at hl 0 rfl) ?_
  refine lv_iconst (v := 1) hx hb dL_772 (by decide) ?_
  refine lv_iadd hx hb dL_773 ?_
  refine va_sld hx hb hX hbl hbA hS1 i1 dL_774 ?_
  refine lv_aload_n hx hb dL_775 rfl (lv_at hl 3 rfl) ?_
  refine lv_iload_n hx hb dL_776 rfl (lv_at hl 0 rfl) ?_
  refine lv_iconst (v := 2) hx hb dL_777 (by decide) ?_
  refine lv_iadd hx hb dL_778 ?_
  refine va_sld hx hb hX hbl hbA hS1 i2 dL_779 ?_
  refine lw_mI (Z := mX12_change) (n := 2) (As := [.int (xs (x3 + 1).toNatClampNeg), .int (xs (x3 + 2).toNatClampNeg)]) (rest := [.int r1]) E hL_L_115 hI_X12_change hS_X12_change hC_X12_change hN_X12 nX12_change (by decide) rfl rfl rfl e2 ok2 w1 hS1 hl.1 (Nat.le_of_ble_eq_true rfl) dL_780 (fun r2 k2 H2 locs2 q2 w2 hS2 => ?_)
  obtain ⟨rfl, x2⟩ := q2
  exact lv_icmp_eq (tgt := 914) hx hb dL_783 (by decide) (fun _ => kk _ _ _ _ _ x1 x2 v' w2 hS2) (fun q => absurd rfl q)
theorem lw_k23 (E : lw_En p s m meth c b L xs D cA a0) (e1 : σ1 0 = a0) (e2 : σ2 0 = a0) (w : LWd D cA σ1 σ2 h1 h2 (fun q => s.heap.size ≤ q) H) (hS : va_S (fun q => s.heap.size ≤ q) s.heap H locs) (hl : lv_has ls 4 [(3, .int x3), (2, .ref (σ2 1)), (1, .ref (σ1 1)), (0, .ref b)]) (i1 : vp_in (x3 + 1) L) (i2 : vp_in (x3 + 2) L) (i3 : vp_in (x3 + 3) L) (x : CRel h1 X) (y : MRel h2 X) (v : StV X) (kk : lwK p l e s m below meth c b D cA σ1 σ2 ls) : W p l e room_1 s m #[Value.ref b] below meth c H locs 600000 7302250 (lw_Z below #[Value.ref b] s) (F0 m 788 ls []) := by
  obtain ⟨hx, hb, hr, hml4, hown, htl, hX, hbl, hlocks, hgv⟩ := E.1
  have hts := f_of_lw htl
  have hbA : ¬ (fun q : Nat => s.heap.size ≤ q) b := Nat.not_le.mpr hbl
  obtain ⟨X', a, v', ok1, ok2⟩ := bo_better x y v (xs (x3 + 1).toNatClampNeg)
  refine lv_aload_n hx hb dL_788 rfl (lv_at hl 2 rfl) ?_
  refine lv_aload_n hx hb dL_789 rfl (lv_at hl 3 rfl) ?_
  refine lv_iload_n hx hb dL_790 rfl (lv_at hl 0 rfl) ?_
  refine lv_iconst (v := 1) hx hb dL_791 (by decide) ?_
  refine lv_iadd hx hb dL_792 ?_
  refine va_sld hx hb hX hbl hbA hS i1 dL_793 ?_
  refine lw_cL (Z := mX11_better) (n := 1) (As := [.int (xs (x3 + 1).toNatClampNeg)]) (rest := []) E hL_L_116 hI_X11_better hS_X11_better hC_X11_better hN_X11 nX11_better (by decide) rfl rfl rfl e1 ok1 w hS hl.1 (Nat.le_of_ble_eq_true rfl) dL_794 (fun r1 k1 H1 locs1 q1 w1 hS1 => ?_)
  obtain ⟨rfl, x1⟩ := q1
  refine lv_aload_n hx hb dL_797 rfl (lv_at hl 1 rfl) ?_
  refine lv_aload_n hx hb dL_798 rfl (lv_at hl 3 rfl) ?_
  refine lv_iload_n hx hb dL_799 rfl (lv_at hl 0 rfl) ?_
  refine lv_iconst (v := 1) hx hb dL_800 (by decide) ?_
  refine lv_iadd hx hb dL_801 ?_
  refine va_sld hx hb hX hbl hbA hS1 i1 dL_802 ?_
  refine lw_mL (Z := mX12_better) (n := 1) (As := [.int (xs (x3 + 1).toNatClampNeg)]) (rest := [.long r1]) E hL_L_119 hI_X12_better hS_X12_better hC_X12_better hN_X12 nX12_better (by decide) rfl rfl rfl e2 ok2 w1 hS1 hl.1 (Nat.le_of_ble_eq_true rfl) dL_803 (fun r2 k2 H2 locs2 q2 w2 hS2 => ?_)
  obtain ⟨rfl, x2⟩ := q2
  refine W.lcmp hx hb dL_806 ?_
  exact lv_if_eq (tgt := 914) hx hb dL_807 (by decide) (fun _ => kk _ _ _ _ _ x1 x2 v' w2 hS2) (fun q => absurd ((lc_eq _ _).mpr rfl) q)
theorem lw_k24 (E : lw_En p s m meth c b L xs D cA a0) (e1 : σ1 0 = a0) (e2 : σ2 0 = a0) (w : LWd D cA σ1 σ2 h1 h2 (fun q => s.heap.size ≤ q) H) (hS : va_S (fun q => s.heap.size ≤ q) s.heap H locs) (hl : lv_has ls 4 [(3, .int x3), (2, .ref (σ2 1)), (1, .ref (σ1 1)), (0, .ref b)]) (i1 : vp_in (x3 + 1) L) (i2 : vp_in (x3 + 2) L) (i3 : vp_in (x3 + 3) L) (x : CRel h1 X) (y : MRel h2 X) (v : StV X) (kk : lwK p l e s m below meth c b D cA σ1 σ2 ls) : W p l e room_1 s m #[Value.ref b] below meth c H locs 600000 7302250 (lw_Z below #[Value.ref b] s) (F0 m 812 ls []) := by
  obtain ⟨hx, hb, hr, hml4, hown, htl, hX, hbl, hlocks, hgv⟩ := E.1
  have hts := f_of_lw htl
  have hbA : ¬ (fun q : Nat => s.heap.size ≤ q) b := Nat.not_le.mpr hbl
  obtain ⟨X', a, v', ok1, ok2⟩ := bo_betterSign x y v (xs (x3 + 1).toNatClampNeg) (xs (x3 + 2).toNatClampNeg)
  refine lv_aload_n hx hb dL_812 rfl (lv_at hl 2 rfl) ?_
  refine lv_aload_n hx hb dL_813 rfl (lv_at hl 3 rfl) ?_
  refine lv_iload_n hx hb dL_814 rfl (lv_at hl 0 rfl) ?_
  refine lv_iconst (v := 1) hx hb dL_815 (by decide) ?_
  refine lv_iadd hx hb dL_816 ?_
  refine va_sld hx hb hX hbl hbA hS i1 dL_817 ?_
  refine lv_aload_n hx hb dL_818 rfl (lv_at hl 3 rfl) ?_
  refine lv_iload_n hx hb dL_819 rfl (lv_at hl 0 rfl) ?_
  refine lv_iconst (v := 2) hx hb dL_820 (by decide) ?_
  refine lv_iadd hx hb dL_821 ?_
  refine va_sld hx hb hX hbl hbA hS i2 dL_822 ?_
  refine lw_cI (Z := mX11_betterSign) (n := 2) (As := [.int (xs (x3 + 1).toNatClampNeg), .int (xs (x3 + 2).toNatClampNeg)]) (rest := []) E hL_L_120 hI_X11_betterSign hS_X11_betterSign hC_X11_betterSign hN_X11 nX11_betterSign (by decide) rfl rfl rfl e1 ok1 w hS hl.1 (Nat.le_of_ble_eq_true rfl) dL_823 (fun r1 k1 H1 locs1 q1 w1 hS1 => ?_)
  obtain ⟨rfl, x1⟩ := q1
  refine lv_aload_n hx hb dL_826 rfl (lv_at hl 1 rfl) ?_
  refine lv_aload_n hx hb dL_827 rfl (lv_at hl 3 rfl) ?_
  refine lv_iload_n hx hb dL_828 rfl (lv_at hl 0 rfl) ?_
  refine lv_iconst (v := 1) hx hb dL_829 (by decide) ?_
  refine lv_iadd hx hb dL_830 ?_
  refine va_sld hx hb hX hbl hbA hS1 i1 dL_831 ?_
  refine lv_aload_n hx hb dL_832 rfl (lv_at hl 3 rfl) ?_
  refine lv_iload_n hx hb dL_833 rfl (lv_at hl 0 rfl) ?_
  refine lv_iconst (v := 2) hx hb dL_834 (by decide) ?_
  refine lv_iadd hx hb dL_835 ?_
  refine va_sld hx hb hX hbl hbA hS1 i2 dL_836 ?_
  refine lw_mI (Z := mX12_betterSign) (n := 2) (As := [.int (xs (x3 + 1).toNatClampNeg), .int (xs (x3 + 2).toNatClampNeg)]) (rest := [.int r1]) E hL_L_123 hI_X12_betterSign hS_X12_betterSign hC_X12_betterSign hN_X12 nX12_betterSign (by decide) rfl rfl rfl e2 ok2 w1 hS1 hl.1 (Nat.le_of_ble_eq_true rfl) dL_837 (fun r2 k2 H2 locs2 q2 w2 hS2 => ?_)
  obtain ⟨rfl, x2⟩ := q2
  exact lv_icmp_eq (tgt := 914) hx hb dL_840 (by decide) (fun _ => kk _ _ _ _ _ x1 x2 v' w2 hS2) (fun q => absurd rfl q)
theorem lw_k25 (E : lw_En p s m meth c b L xs D cA a0) (e1 : σ1 0 = a0) (e2 : σ2 0 = a0) (w : LWd D cA σ1 σ2 h1 h2 (fun q => s.heap.size ≤ q) H) (hS : va_S (fun q => s.heap.size ≤ q) s.heap H locs) (hl : lv_has ls 4 [(3, .int x3), (2, .ref (σ2 1)), (1, .ref (σ1 1)), (0, .ref b)]) (i1 : vp_in (x3 + 1) L) (i2 : vp_in (x3 + 2) L) (i3 : vp_in (x3 + 3) L) (x : CRel h1 X) (y : MRel h2 X) (v : StV X) (kk : lwK p l e s m below meth c b D cA σ1 σ2 ls) : W p l e room_1 s m #[Value.ref b] below meth c H locs 600000 7302250 (lw_Z below #[Value.ref b] s) (F0 m 845 ls []) := by
  obtain ⟨hx, hb, hr, hml4, hown, htl, hX, hbl, hlocks, hgv⟩ := E.1
  have hts := f_of_lw htl
  have hbA : ¬ (fun q : Nat => s.heap.size ≤ q) b := Nat.not_le.mpr hbl
  obtain ⟨X', a, v', ok1, ok2⟩ := bo_image x y v (xs (x3 + 1).toNatClampNeg)
  refine lv_aload_n hx hb dL_845 rfl (lv_at hl 2 rfl) ?_
  refine lv_aload_n hx hb dL_846 rfl (lv_at hl 3 rfl) ?_
  refine lv_iload_n hx hb dL_847 rfl (lv_at hl 0 rfl) ?_
  refine lv_iconst (v := 1) hx hb dL_848 (by decide) ?_
  refine lv_iadd hx hb dL_849 ?_
  refine va_sld hx hb hX hbl hbA hS i1 dL_850 ?_
  refine lw_cI (Z := mX11_image) (n := 1) (As := [.int (xs (x3 + 1).toNatClampNeg)]) (rest := []) E hL_L_124 hI_X11_image hS_X11_image hC_X11_image hN_X11 nX11_image (by decide) rfl rfl rfl e1 ok1 w hS hl.1 (Nat.le_of_ble_eq_true rfl) dL_851 (fun r1 k1 H1 locs1 q1 w1 hS1 => ?_)
  obtain ⟨rfl, x1⟩ := q1
  refine lv_aload_n hx hb dL_854 rfl (lv_at hl 1 rfl) ?_
  refine lv_aload_n hx hb dL_855 rfl (lv_at hl 3 rfl) ?_
  refine lv_iload_n hx hb dL_856 rfl (lv_at hl 0 rfl) ?_
  refine lv_iconst (v := 1) hx hb dL_857 (by decide) ?_
  refine lv_iadd hx hb dL_858 ?_
  refine va_sld hx hb hX hbl hbA hS1 i1 dL_859 ?_
  refine lw_mI (Z := mX12_image) (n := 1) (As := [.int (xs (x3 + 1).toNatClampNeg)]) (rest := [.int r1]) E hL_L_127 hI_X12_image hS_X12_image hC_X12_image hN_X12 nX12_image (by decide) rfl rfl rfl e2 ok2 w1 hS1 hl.1 (Nat.le_of_ble_eq_true rfl) dL_860 (fun r2 k2 H2 locs2 q2 w2 hS2 => ?_)
  obtain ⟨rfl, x2⟩ := q2
  exact lv_icmp_eq (tgt := 914) hx hb dL_863 (by decide) (fun _ => kk _ _ _ _ _ x1 x2 v' w2 hS2) (fun q => absurd rfl q)
theorem lw_k26 (E : lw_En p s m meth c b L xs D cA a0) (e1 : σ1 0 = a0) (e2 : σ2 0 = a0) (w : LWd D cA σ1 σ2 h1 h2 (fun q => s.heap.size ≤ q) H) (hS : va_S (fun q => s.heap.size ≤ q) s.heap H locs) (hl : lv_has ls 4 [(3, .int x3), (2, .ref (σ2 1)), (1, .ref (σ1 1)), (0, .ref b)]) (i1 : vp_in (x3 + 1) L) (i2 : vp_in (x3 + 2) L) (i3 : vp_in (x3 + 3) L) (x : CRel h1 X) (y : MRel h2 X) (v : StV X) (kk : lwK p l e s m below meth c b D cA σ1 σ2 ls) : W p l e room_1 s m #[Value.ref b] below meth c H locs 600000 7302250 (lw_Z below #[Value.ref b] s) (F0 m 868 ls []) := by
  obtain ⟨hx, hb, hr, hml4, hown, htl, hX, hbl, hlocks, hgv⟩ := E.1
  have hts := f_of_lw htl
  have hbA : ¬ (fun q : Nat => s.heap.size ≤ q) b := Nat.not_le.mpr hbl
  obtain ⟨X', a, v', ok1, ok2⟩ := bo_restore x y v (xs (x3 + 1).toNatClampNeg)
  refine lv_aload_n hx hb dL_868 rfl (lv_at hl 2 rfl) ?_
  refine lv_aload_n hx hb dL_869 rfl (lv_at hl 3 rfl) ?_
  refine lv_iload_n hx hb dL_870 rfl (lv_at hl 0 rfl) ?_
  refine lv_iconst (v := 1) hx hb dL_871 (by decide) ?_
  refine lv_iadd hx hb dL_872 ?_
  refine va_sld hx hb hX hbl hbA hS i1 dL_873 ?_
  refine lw_cI (Z := mX11_restore) (n := 1) (As := [.int (xs (x3 + 1).toNatClampNeg)]) (rest := []) E hL_L_128 hI_X11_restore hS_X11_restore hC_X11_restore hN_X11 nX11_restore (by decide) rfl rfl rfl e1 ok1 w hS hl.1 (Nat.le_of_ble_eq_true rfl) dL_874 (fun r1 k1 H1 locs1 q1 w1 hS1 => ?_)
  obtain ⟨rfl, x1⟩ := q1
  refine lv_aload_n hx hb dL_877 rfl (lv_at hl 1 rfl) ?_
  refine lv_aload_n hx hb dL_878 rfl (lv_at hl 3 rfl) ?_
  refine lv_iload_n hx hb dL_879 rfl (lv_at hl 0 rfl) ?_
  refine lv_iconst (v := 1) hx hb dL_880 (by decide) ?_
  refine lv_iadd hx hb dL_881 ?_
  refine va_sld hx hb hX hbl hbA hS1 i1 dL_882 ?_
  refine lw_mI (Z := mX12_restore) (n := 1) (As := [.int (xs (x3 + 1).toNatClampNeg)]) (rest := [.int r1]) E hL_L_131 hI_X12_restore hS_X12_restore hC_X12_restore hN_X12 nX12_restore (by decide) rfl rfl rfl e2 ok2 w1 hS1 hl.1 (Nat.le_of_ble_eq_true rfl) dL_883 (fun r2 k2 H2 locs2 q2 w2 hS2 => ?_)
  obtain ⟨rfl, x2⟩ := q2
  exact lv_icmp_eq (tgt := 914) hx hb dL_886 (by decide) (fun _ => kk _ _ _ _ _ x1 x2 v' w2 hS2) (fun q => absurd rfl q)
theorem lw_k27 (E : lw_En p s m meth c b L xs D cA a0) (e1 : σ1 0 = a0) (e2 : σ2 0 = a0) (w : LWd D cA σ1 σ2 h1 h2 (fun q => s.heap.size ≤ q) H) (hS : va_S (fun q => s.heap.size ≤ q) s.heap H locs) (hl : lv_has ls 4 [(3, .int x3), (2, .ref (σ2 1)), (1, .ref (σ1 1)), (0, .ref b)]) (i1 : vp_in (x3 + 1) L) (i2 : vp_in (x3 + 2) L) (i3 : vp_in (x3 + 3) L) (x : CRel h1 X) (y : MRel h2 X) (v : StV X) (kk : lwK p l e s m below meth c b D cA σ1 σ2 ls) : W p l e room_1 s m #[Value.ref b] below meth c H locs 600000 7302250 (lw_Z below #[Value.ref b] s) (F0 m 891 ls []) := by
  obtain ⟨hx, hb, hr, hml4, hown, htl, hX, hbl, hlocks, hgv⟩ := E.1
  have hts := f_of_lw htl
  have hbA : ¬ (fun q : Nat => s.heap.size ≤ q) b := Nat.not_le.mpr hbl
  obtain ⟨X', a, v', ok1, ok2⟩ := bo_told x y v (xs (x3 + 1).toNatClampNeg)
  refine lv_aload_n hx hb dL_891 rfl (lv_at hl 2 rfl) ?_
  refine lv_aload_n hx hb dL_892 rfl (lv_at hl 3 rfl) ?_
  refine lv_iload_n hx hb dL_893 rfl (lv_at hl 0 rfl) ?_
  refine lv_iconst (v := 1) hx hb dL_894 (by decide) ?_
  refine lv_iadd hx hb dL_895 ?_
  refine va_sld hx hb hX hbl hbA hS i1 dL_896 ?_
  refine lw_cI (Z := mX11_told) (n := 1) (As := [.int (xs (x3 + 1).toNatClampNeg)]) (rest := []) E hL_L_132 hI_X11_told hS_X11_told hC_X11_told hN_X11 nX11_told (by decide) rfl rfl rfl e1 ok1 w hS hl.1 (Nat.le_of_ble_eq_true rfl) dL_897 (fun r1 k1 H1 locs1 q1 w1 hS1 => ?_)
  obtain ⟨rfl, x1⟩ := q1
  refine lv_aload_n hx hb dL_900 rfl (lv_at hl 1 rfl) ?_
  refine lv_aload_n hx hb dL_901 rfl (lv_at hl 3 rfl) ?_
  refine lv_iload_n hx hb dL_902 rfl (lv_at hl 0 rfl) ?_
  refine lv_iconst (v := 1) hx hb dL_903 (by decide) ?_
  refine lv_iadd hx hb dL_904 ?_
  refine va_sld hx hb hX hbl hbA hS1 i1 dL_905 ?_
  refine lw_mI (Z := mX12_told) (n := 1) (As := [.int (xs (x3 + 1).toNatClampNeg)]) (rest := [.int r1]) E hL_L_135 hI_X12_told hS_X12_told hC_X12_told hN_X12 nX12_told (by decide) rfl rfl rfl e2 ok2 w1 hS1 hl.1 (Nat.le_of_ble_eq_true rfl) dL_906 (fun r2 k2 H2 locs2 q2 w2 hS2 => ?_)
  obtain ⟨rfl, x2⟩ := q2
  exact lv_icmp_eq (tgt := 914) hx hb dL_909 (by decide) (fun _ => kk _ _ _ _ _ x1 x2 v' w2 hS2) (fun q => absurd rfl q)
end LAWK

/-! the law's thirty cases: the class and the reference answer alike, and go on -/
theorem lg_self (x : Int64) : lg_cmp x x = 0 := by simp [lg_cmp]
abbrev cwL : Cond := .initialized RL
section CS
variable {p : Program} {l : Launch} {e : Env} {s : State} {m : MethodId} {args : Array Value} {below : List Frame} {meth : Method} {c : Code} {H : Heap} {locs : List Loc} {Q : State → Prop}
variable {ls : Array Slot} {D : va_G} {g : Nat → ClassId} {A : Nat → Prop} {H0 : Heap} {ad am : Nat → Nat} {σ τ : St} {b L : Nat} {xs : Nat → Int32} {x : Int32}
set_option maxHeartbeats 1000000 in
theorem lc_0 (X : Cx p s m c args cL_law RL cwL D g) (hml : c.maxLocals = 4) (hV : va_X b L xs s H0 ∧ b < H0.size ∧ ¬ A b) (hl : lv_has ls 4 [(0, .ref b), (1, .ref (ad 0)), (2, .ref (am 0)), (3, .int x)]) (hI : vp_in (x + 1) L ∧ vp_in (x + 2) L ∧ vp_in (x + 3) L ∧ vp_in (x + 4) L ∧ vp_in (x + 5) L) (Y : Hp D A H0 H locs (WC g ad σ ++ WM g am τ)) (hR : Rl σ τ)
    (kk : ∀ (σ' τ' : St) (H1 : Heap) (locs1 : List Loc), Rl σ' τ' → Hp D A H0 H1 locs1 (WC g ad σ' ++ WM g am τ') → W p l e room_1 s m args below meth c H1 locs1 36 790 Q (F0 m 1120 ls [])) : W p l e room_1 s m args below meth c H locs 36 790 Q (F0 m 168 ls []) := by
  refine lv_aload_n X.1 X.2.1 dL_law_168 rfl (lv_at hl 1 rfl) ?_
  refine lA X hV Y hl (j := 1) (by decide) hI.1 dL_law_169 dL_law_170 dL_law_171 dL_law_172 dL_law_173 ?_
  refine lA X hV Y hl (j := 2) (by decide) hI.2.1 dL_law_174 dL_law_175 dL_law_176 dL_law_177 dL_law_178 ?_
  refine lA X hV Y hl (j := 3) (by decide) hI.2.2.1 dL_law_179 dL_law_180 dL_law_181 dL_law_182 dL_law_183 ?_
  refine lA X hV Y hl (j := 4) (by decide) hI.2.2.2.1 dL_law_184 dL_law_185 dL_law_186 dL_law_187 dL_law_188 ?_
  obtain ⟨r, σ', τ', e1, e2, hR2⟩ := q_river hR (xs (x + 1).toNatClampNeg) (xs (x + 2).toNatClampNeg) (xs (x + 3).toNatClampNeg) (xs (x + 4).toNatClampNeg)
  refine lVi X (hml.trans hl.1.symm) Y (As := [.int (xs (x + 1).toNatClampNeg), .int (xs (x + 2).toNatClampNeg), .int (xs (x + 3).toNatClampNeg), .int (xs (x + 4).toNatClampNeg)]) (c_fX3_river l D g ad σ _ (xs (x + 1).toNatClampNeg) (xs (x + 2).toNatClampNeg) (xs (x + 3).toNatClampNeg) (xs (x + 4).toNatClampNeg) e1) (q0 := 0) (ci := 2) rfl rfl (gV tw_141 tw_142 tw_143 tw_33 tw_144) rfl fd_X3_river ⟨(Nat.le_of_ble_eq_true rfl), (Nat.le_of_ble_eq_true rfl)⟩ ⟨(Nat.le_of_ble_eq_true rfl), (Nat.le_of_ble_eq_true rfl)⟩ (rest := []) rfl (Nat.le_of_ble_eq_true rfl) dL_law_189 (fun H locs Y => ?_)
  refine lv_aload_n X.1 X.2.1 dL_law_192 rfl (lv_at hl 2 rfl) ?_
  refine lA X hV Y hl (j := 1) (by decide) hI.1 dL_law_193 dL_law_194 dL_law_195 dL_law_196 dL_law_197 ?_
  refine lA X hV Y hl (j := 2) (by decide) hI.2.1 dL_law_198 dL_law_199 dL_law_200 dL_law_201 dL_law_202 ?_
  refine lA X hV Y hl (j := 3) (by decide) hI.2.2.1 dL_law_203 dL_law_204 dL_law_205 dL_law_206 dL_law_207 ?_
  refine lA X hV Y hl (j := 4) (by decide) hI.2.2.2.1 dL_law_208 dL_law_209 dL_law_210 dL_law_211 dL_law_212 ?_
  refine lVi X (hml.trans hl.1.symm) Y.comm (As := [.int (xs (x + 1).toNatClampNeg), .int (xs (x + 2).toNatClampNeg), .int (xs (x + 3).toNatClampNeg), .int (xs (x + 4).toNatClampNeg)]) (c_fX4_river l D g am τ _ (xs (x + 1).toNatClampNeg) (xs (x + 2).toNatClampNeg) (xs (x + 3).toNatClampNeg) (xs (x + 4).toNatClampNeg) e2) (q0 := 0) (ci := 3) rfl rfl (gV tw_557 tw_558 tw_559 tw_36 tw_560) rfl fd_X4_river ⟨(Nat.le_of_ble_eq_true rfl), (Nat.le_of_ble_eq_true rfl)⟩ ⟨(Nat.le_of_ble_eq_true rfl), (Nat.le_of_ble_eq_true rfl)⟩ (rest := [.int r]) rfl (Nat.le_of_ble_eq_true rfl) dL_law_213 (fun H locs Y => ?_)
  exact lv_icmp_eq (tgt := 1120) X.1 X.2.1 dL_law_216 (by decide) (fun _ => kk σ' τ' _ _ hR2 Y.comm) (fun h => absurd rfl h)
set_option maxHeartbeats 1000000 in
theorem lc_1 (X : Cx p s m c args cL_law RL cwL D g) (hml : c.maxLocals = 4) (hV : va_X b L xs s H0 ∧ b < H0.size ∧ ¬ A b) (hl : lv_has ls 4 [(0, .ref b), (1, .ref (ad 0)), (2, .ref (am 0)), (3, .int x)]) (hI : vp_in (x + 1) L ∧ vp_in (x + 2) L ∧ vp_in (x + 3) L ∧ vp_in (x + 4) L ∧ vp_in (x + 5) L) (Y : Hp D A H0 H locs (WC g ad σ ++ WM g am τ)) (hR : Rl σ τ)
    (kk : ∀ (σ' τ' : St) (H1 : Heap) (locs1 : List Loc), Rl σ' τ' → Hp D A H0 H1 locs1 (WC g ad σ' ++ WM g am τ') → W p l e room_1 s m args below meth c H1 locs1 36 790 Q (F0 m 1120 ls [])) : W p l e room_1 s m args below meth c H locs 36 790 Q (F0 m 221 ls []) := by
  refine lv_aload_n X.1 X.2.1 dL_law_221 rfl (lv_at hl 1 rfl) ?_
  refine lA X hV Y hl (j := 1) (by decide) hI.1 dL_law_222 dL_law_223 dL_law_224 dL_law_225 dL_law_226 ?_
  refine lA X hV Y hl (j := 2) (by decide) hI.2.1 dL_law_227 dL_law_228 dL_law_229 dL_law_230 dL_law_231 ?_
  obtain ⟨r, e1, e2⟩ := q_ofPerson hR (xs (x + 1).toNatClampNeg) (xs (x + 2).toNatClampNeg)
  refine lVi X (hml.trans hl.1.symm) Y (As := [.int (xs (x + 1).toNatClampNeg), .int (xs (x + 2).toNatClampNeg)]) (c_fX3_ofPerson l D g ad σ _ (xs (x + 1).toNatClampNeg) (xs (x + 2).toNatClampNeg) e1) (q0 := 0) (ci := 2) rfl rfl (gV tw_183 tw_184 tw_185 tw_33 tw_186) rfl fd_X3_ofPerson ⟨(Nat.le_of_ble_eq_true rfl), (Nat.le_of_ble_eq_true rfl)⟩ ⟨(Nat.le_of_ble_eq_true rfl), (Nat.le_of_ble_eq_true rfl)⟩ (rest := []) rfl (Nat.le_of_ble_eq_true rfl) dL_law_232 (fun H locs Y => ?_)
  refine lv_aload_n X.1 X.2.1 dL_law_235 rfl (lv_at hl 2 rfl) ?_
  refine lA X hV Y hl (j := 1) (by decide) hI.1 dL_law_236 dL_law_237 dL_law_238 dL_law_239 dL_law_240 ?_
  refine lA X hV Y hl (j := 2) (by decide) hI.2.1 dL_law_241 dL_law_242 dL_law_243 dL_law_244 dL_law_245 ?_
  refine lVi X (hml.trans hl.1.symm) Y.comm (As := [.int (xs (x + 1).toNatClampNeg), .int (xs (x + 2).toNatClampNeg)]) (c_fX4_ofPerson l D g am τ _ (xs (x + 1).toNatClampNeg) (xs (x + 2).toNatClampNeg) e2) (q0 := 0) (ci := 3) rfl rfl (gV tw_598 tw_599 tw_600 tw_36 tw_601) rfl fd_X4_ofPerson ⟨(Nat.le_of_ble_eq_true rfl), (Nat.le_of_ble_eq_true rfl)⟩ ⟨(Nat.le_of_ble_eq_true rfl), (Nat.le_of_ble_eq_true rfl)⟩ (rest := [.int r]) rfl (Nat.le_of_ble_eq_true rfl) dL_law_246 (fun H locs Y => ?_)
  exact lv_icmp_eq (tgt := 1120) X.1 X.2.1 dL_law_249 (by decide) (fun _ => kk σ τ _ _ hR Y.comm) (fun h => absurd rfl h)
set_option maxHeartbeats 1000000 in
theorem lc_2 (X : Cx p s m c args cL_law RL cwL D g) (hml : c.maxLocals = 4) (hV : va_X b L xs s H0 ∧ b < H0.size ∧ ¬ A b) (hl : lv_has ls 4 [(0, .ref b), (1, .ref (ad 0)), (2, .ref (am 0)), (3, .int x)]) (hI : vp_in (x + 1) L ∧ vp_in (x + 2) L ∧ vp_in (x + 3) L ∧ vp_in (x + 4) L ∧ vp_in (x + 5) L) (Y : Hp D A H0 H locs (WC g ad σ ++ WM g am τ)) (hR : Rl σ τ)
    (kk : ∀ (σ' τ' : St) (H1 : Heap) (locs1 : List Loc), Rl σ' τ' → Hp D A H0 H1 locs1 (WC g ad σ' ++ WM g am τ') → W p l e room_1 s m args below meth c H1 locs1 36 790 Q (F0 m 1120 ls [])) : W p l e room_1 s m args below meth c H locs 36 790 Q (F0 m 254 ls []) := by
  refine lv_aload_n X.1 X.2.1 dL_law_254 rfl (lv_at hl 1 rfl) ?_
  refine lA X hV Y hl (j := 1) (by decide) hI.1 dL_law_255 dL_law_256 dL_law_257 dL_law_258 dL_law_259 ?_
  refine lA X hV Y hl (j := 2) (by decide) hI.2.1 dL_law_260 dL_law_261 dL_law_262 dL_law_263 dL_law_264 ?_
  obtain ⟨r, e1, e2⟩ := q_owes hR (xs (x + 1).toNatClampNeg) (xs (x + 2).toNatClampNeg)
  refine lVi X (hml.trans hl.1.symm) Y (As := [.int (xs (x + 1).toNatClampNeg), .int (xs (x + 2).toNatClampNeg)]) (c_fX3_owes l D g ad σ (xs (x + 1).toNatClampNeg) (xs (x + 2).toNatClampNeg) e1) (q0 := 0) (ci := 2) rfl rfl (gV tw_195 tw_196 tw_197 tw_33 tw_198) rfl fd_X3_owes ⟨(Nat.le_of_ble_eq_true rfl), (Nat.le_of_ble_eq_true rfl)⟩ ⟨(Nat.le_of_ble_eq_true rfl), (Nat.le_of_ble_eq_true rfl)⟩ (rest := []) rfl (Nat.le_of_ble_eq_true rfl) dL_law_265 (fun H locs Y => ?_)
  refine lv_aload_n X.1 X.2.1 dL_law_268 rfl (lv_at hl 2 rfl) ?_
  refine lA X hV Y hl (j := 1) (by decide) hI.1 dL_law_269 dL_law_270 dL_law_271 dL_law_272 dL_law_273 ?_
  refine lA X hV Y hl (j := 2) (by decide) hI.2.1 dL_law_274 dL_law_275 dL_law_276 dL_law_277 dL_law_278 ?_
  refine lVi X (hml.trans hl.1.symm) Y.comm (As := [.int (xs (x + 1).toNatClampNeg), .int (xs (x + 2).toNatClampNeg)]) (c_fX4_owes l D g am τ (xs (x + 1).toNatClampNeg) (xs (x + 2).toNatClampNeg) e2) (q0 := 0) (ci := 3) rfl rfl (gV tw_610 tw_611 tw_612 tw_36 tw_613) rfl fd_X4_owes ⟨(Nat.le_of_ble_eq_true rfl), (Nat.le_of_ble_eq_true rfl)⟩ ⟨(Nat.le_of_ble_eq_true rfl), (Nat.le_of_ble_eq_true rfl)⟩ (rest := [.int r]) rfl (Nat.le_of_ble_eq_true rfl) dL_law_279 (fun H locs Y => ?_)
  exact lv_icmp_eq (tgt := 1120) X.1 X.2.1 dL_law_282 (by decide) (fun _ => kk σ τ _ _ hR Y.comm) (fun h => absurd rfl h)
set_option maxHeartbeats 1000000 in
theorem lc_3 (X : Cx p s m c args cL_law RL cwL D g) (hml : c.maxLocals = 4) (hV : va_X b L xs s H0 ∧ b < H0.size ∧ ¬ A b) (hl : lv_has ls 4 [(0, .ref b), (1, .ref (ad 0)), (2, .ref (am 0)), (3, .int x)]) (hI : vp_in (x + 1) L ∧ vp_in (x + 2) L ∧ vp_in (x + 3) L ∧ vp_in (x + 4) L ∧ vp_in (x + 5) L) (Y : Hp D A H0 H locs (WC g ad σ ++ WM g am τ)) (hR : Rl σ τ)
    (kk : ∀ (σ' τ' : St) (H1 : Heap) (locs1 : List Loc), Rl σ' τ' → Hp D A H0 H1 locs1 (WC g ad σ' ++ WM g am τ') → W p l e room_1 s m args below meth c H1 locs1 36 790 Q (F0 m 1120 ls [])) : W p l e room_1 s m args below meth c H locs 36 790 Q (F0 m 287 ls []) := by
  refine lv_aload_n X.1 X.2.1 dL_law_287 rfl (lv_at hl 1 rfl) ?_
  refine lA X hV Y hl (j := 1) (by decide) hI.1 dL_law_288 dL_law_289 dL_law_290 dL_law_291 dL_law_292 ?_
  refine lA X hV Y hl (j := 2) (by decide) hI.2.1 dL_law_293 dL_law_294 dL_law_295 dL_law_296 dL_law_297 ?_
  refine lA X hV Y hl (j := 3) (by decide) hI.2.2.1 dL_law_298 dL_law_299 dL_law_300 dL_law_301 dL_law_302 ?_
  obtain ⟨r, σ', τ', e1, e2, hR2⟩ := q_lend hR (xs (x + 1).toNatClampNeg) (xs (x + 2).toNatClampNeg) (xs (x + 3).toNatClampNeg)
  refine lVi X (hml.trans hl.1.symm) Y (As := [.int (xs (x + 1).toNatClampNeg), .int (xs (x + 2).toNatClampNeg), .int (xs (x + 3).toNatClampNeg)]) (c_fX3_lend l D g ad σ (xs (x + 1).toNatClampNeg) (xs (x + 2).toNatClampNeg) (xs (x + 3).toNatClampNeg) e1) (q0 := 0) (ci := 2) rfl rfl (gV tw_199 tw_200 tw_201 tw_33 tw_202) rfl fd_X3_lend ⟨(Nat.le_of_ble_eq_true rfl), (Nat.le_of_ble_eq_true rfl)⟩ ⟨(Nat.le_of_ble_eq_true rfl), (Nat.le_of_ble_eq_true rfl)⟩ (rest := []) rfl (Nat.le_of_ble_eq_true rfl) dL_law_303 (fun H locs Y => ?_)
  refine lv_aload_n X.1 X.2.1 dL_law_306 rfl (lv_at hl 2 rfl) ?_
  refine lA X hV Y hl (j := 1) (by decide) hI.1 dL_law_307 dL_law_308 dL_law_309 dL_law_310 dL_law_311 ?_
  refine lA X hV Y hl (j := 2) (by decide) hI.2.1 dL_law_312 dL_law_313 dL_law_314 dL_law_315 dL_law_316 ?_
  refine lA X hV Y hl (j := 3) (by decide) hI.2.2.1 dL_law_317 dL_law_318 dL_law_319 dL_law_320 dL_law_321 ?_
  refine lVi X (hml.trans hl.1.symm) Y.comm (As := [.int (xs (x + 1).toNatClampNeg), .int (xs (x + 2).toNatClampNeg), .int (xs (x + 3).toNatClampNeg)]) (c_fX4_lend l D g am τ (xs (x + 1).toNatClampNeg) (xs (x + 2).toNatClampNeg) (xs (x + 3).toNatClampNeg) e2) (q0 := 0) (ci := 3) rfl rfl (gV tw_614 tw_615 tw_616 tw_36 tw_617) rfl fd_X4_lend ⟨(Nat.le_of_ble_eq_true rfl), (Nat.le_of_ble_eq_true rfl)⟩ ⟨(Nat.le_of_ble_eq_true rfl), (Nat.le_of_ble_eq_true rfl)⟩ (rest := [.int r]) rfl (Nat.le_of_ble_eq_true rfl) dL_law_322 (fun H locs Y => ?_)
  exact lv_icmp_eq (tgt := 1120) X.1 X.2.1 dL_law_325 (by decide) (fun _ => kk σ' τ' _ _ hR2 Y.comm) (fun h => absurd rfl h)
set_option maxHeartbeats 1000000 in
theorem lc_4 (X : Cx p s m c args cL_law RL cwL D g) (hml : c.maxLocals = 4) (hV : va_X b L xs s H0 ∧ b < H0.size ∧ ¬ A b) (hl : lv_has ls 4 [(0, .ref b), (1, .ref (ad 0)), (2, .ref (am 0)), (3, .int x)]) (hI : vp_in (x + 1) L ∧ vp_in (x + 2) L ∧ vp_in (x + 3) L ∧ vp_in (x + 4) L ∧ vp_in (x + 5) L) (Y : Hp D A H0 H locs (WC g ad σ ++ WM g am τ)) (hR : Rl σ τ)
    (kk : ∀ (σ' τ' : St) (H1 : Heap) (locs1 : List Loc), Rl σ' τ' → Hp D A H0 H1 locs1 (WC g ad σ' ++ WM g am τ') → W p l e room_1 s m args below meth c H1 locs1 36 790 Q (F0 m 1120 ls [])) : W p l e room_1 s m args below meth c H locs 36 790 Q (F0 m 330 ls []) := by
  refine lv_aload_n X.1 X.2.1 dL_law_330 rfl (lv_at hl 1 rfl) ?_
  refine lA X hV Y hl (j := 1) (by decide) hI.1 dL_law_331 dL_law_332 dL_law_333 dL_law_334 dL_law_335 ?_
  obtain ⟨r, σ', τ', e1, e2, hR2⟩ := q_count hR (xs (x + 1).toNatClampNeg)
  refine lVi X (hml.trans hl.1.symm) Y (As := [.int (xs (x + 1).toNatClampNeg)]) (c_fX3_count l D g ad σ (xs (x + 1).toNatClampNeg) e1) (q0 := 0) (ci := 2) rfl rfl (gV tw_208 tw_209 tw_210 tw_33 tw_211) rfl fd_X3_count ⟨(Nat.le_of_ble_eq_true rfl), (Nat.le_of_ble_eq_true rfl)⟩ ⟨(Nat.le_of_ble_eq_true rfl), (Nat.le_of_ble_eq_true rfl)⟩ (rest := []) rfl (Nat.le_of_ble_eq_true rfl) dL_law_336 (fun H locs Y => ?_)
  refine lv_aload_n X.1 X.2.1 dL_law_339 rfl (lv_at hl 2 rfl) ?_
  refine lA X hV Y hl (j := 1) (by decide) hI.1 dL_law_340 dL_law_341 dL_law_342 dL_law_343 dL_law_344 ?_
  refine lVi X (hml.trans hl.1.symm) Y.comm (As := [.int (xs (x + 1).toNatClampNeg)]) (c_fX4_count l D g am τ (xs (x + 1).toNatClampNeg) e2) (q0 := 0) (ci := 3) rfl rfl (gV tw_622 tw_623 tw_624 tw_36 tw_625) rfl fd_X4_count ⟨(Nat.le_of_ble_eq_true rfl), (Nat.le_of_ble_eq_true rfl)⟩ ⟨(Nat.le_of_ble_eq_true rfl), (Nat.le_of_ble_eq_true rfl)⟩ (rest := [.int r]) rfl (Nat.le_of_ble_eq_true rfl) dL_law_345 (fun H locs Y => ?_)
  exact lv_icmp_eq (tgt := 1120) X.1 X.2.1 dL_law_348 (by decide) (fun _ => kk σ' τ' _ _ hR2 Y.comm) (fun h => absurd rfl h)
set_option maxHeartbeats 1000000 in
theorem lc_5 (X : Cx p s m c args cL_law RL cwL D g) (hml : c.maxLocals = 4) (hV : va_X b L xs s H0 ∧ b < H0.size ∧ ¬ A b) (hl : lv_has ls 4 [(0, .ref b), (1, .ref (ad 0)), (2, .ref (am 0)), (3, .int x)]) (hI : vp_in (x + 1) L ∧ vp_in (x + 2) L ∧ vp_in (x + 3) L ∧ vp_in (x + 4) L ∧ vp_in (x + 5) L) (Y : Hp D A H0 H locs (WC g ad σ ++ WM g am τ)) (hR : Rl σ τ)
    (kk : ∀ (σ' τ' : St) (H1 : Heap) (locs1 : List Loc), Rl σ' τ' → Hp D A H0 H1 locs1 (WC g ad σ' ++ WM g am τ') → W p l e room_1 s m args below meth c H1 locs1 36 790 Q (F0 m 1120 ls [])) : W p l e room_1 s m args below meth c H locs 36 790 Q (F0 m 353 ls []) := by
  refine lv_aload_n X.1 X.2.1 dL_law_353 rfl (lv_at hl 1 rfl) ?_
  refine lA X hV Y hl (j := 1) (by decide) hI.1 dL_law_354 dL_law_355 dL_law_356 dL_law_357 dL_law_358 ?_
  obtain ⟨r, σ', τ', e1, e2, hR2⟩ := q_build hR (xs (x + 1).toNatClampNeg)
  refine lVi X (hml.trans hl.1.symm) Y (As := [.int (xs (x + 1).toNatClampNeg)]) (c_fX3_build l D g ad σ (xs (x + 1).toNatClampNeg) e1) (q0 := 0) (ci := 2) rfl rfl (gV tw_216 tw_217 tw_218 tw_33 tw_219) rfl fd_X3_build ⟨(Nat.le_of_ble_eq_true rfl), (Nat.le_of_ble_eq_true rfl)⟩ ⟨(Nat.le_of_ble_eq_true rfl), (Nat.le_of_ble_eq_true rfl)⟩ (rest := []) rfl (Nat.le_of_ble_eq_true rfl) dL_law_359 (fun H locs Y => ?_)
  refine lv_aload_n X.1 X.2.1 dL_law_362 rfl (lv_at hl 2 rfl) ?_
  refine lA X hV Y hl (j := 1) (by decide) hI.1 dL_law_363 dL_law_364 dL_law_365 dL_law_366 dL_law_367 ?_
  refine lVi X (hml.trans hl.1.symm) Y.comm (As := [.int (xs (x + 1).toNatClampNeg)]) (c_fX4_build l D g am τ (xs (x + 1).toNatClampNeg) e2) (q0 := 0) (ci := 3) rfl rfl (gV tw_626 tw_627 tw_628 tw_36 tw_629) rfl fd_X4_build ⟨(Nat.le_of_ble_eq_true rfl), (Nat.le_of_ble_eq_true rfl)⟩ ⟨(Nat.le_of_ble_eq_true rfl), (Nat.le_of_ble_eq_true rfl)⟩ (rest := [.int r]) rfl (Nat.le_of_ble_eq_true rfl) dL_law_368 (fun H locs Y => ?_)
  exact lv_icmp_eq (tgt := 1120) X.1 X.2.1 dL_law_371 (by decide) (fun _ => kk σ' τ' _ _ hR2 Y.comm) (fun h => absurd rfl h)
set_option maxHeartbeats 1000000 in
theorem lc_6 (X : Cx p s m c args cL_law RL cwL D g) (hml : c.maxLocals = 4) (hV : va_X b L xs s H0 ∧ b < H0.size ∧ ¬ A b) (hl : lv_has ls 4 [(0, .ref b), (1, .ref (ad 0)), (2, .ref (am 0)), (3, .int x)]) (hI : vp_in (x + 1) L ∧ vp_in (x + 2) L ∧ vp_in (x + 3) L ∧ vp_in (x + 4) L ∧ vp_in (x + 5) L) (Y : Hp D A H0 H locs (WC g ad σ ++ WM g am τ)) (hR : Rl σ τ)
    (kk : ∀ (σ' τ' : St) (H1 : Heap) (locs1 : List Loc), Rl σ' τ' → Hp D A H0 H1 locs1 (WC g ad σ' ++ WM g am τ') → W p l e room_1 s m args below meth c H1 locs1 36 790 Q (F0 m 1120 ls [])) : W p l e room_1 s m args below meth c H locs 36 790 Q (F0 m 376 ls []) := by
  refine lv_aload_n X.1 X.2.1 dL_law_376 rfl (lv_at hl 1 rfl) ?_
  refine lA X hV Y hl (j := 1) (by decide) hI.1 dL_law_377 dL_law_378 dL_law_379 dL_law_380 dL_law_381 ?_
  refine lA X hV Y hl (j := 2) (by decide) hI.2.1 dL_law_382 dL_law_383 dL_law_384 dL_law_385 dL_law_386 ?_
  obtain ⟨r, e1, e2⟩ := q_debt hR (xs (x + 1).toNatClampNeg) (xs (x + 2).toNatClampNeg)
  refine lVi X (hml.trans hl.1.symm) Y (As := [.int (xs (x + 1).toNatClampNeg), .int (xs (x + 2).toNatClampNeg)]) (c_fX3_debt l D g ad σ _ (xs (x + 1).toNatClampNeg) (xs (x + 2).toNatClampNeg) e1) (q0 := 0) (ci := 2) rfl rfl (gV tw_220 tw_221 tw_222 tw_33 tw_223) rfl fd_X3_debt ⟨(Nat.le_of_ble_eq_true rfl), (Nat.le_of_ble_eq_true rfl)⟩ ⟨(Nat.le_of_ble_eq_true rfl), (Nat.le_of_ble_eq_true rfl)⟩ (rest := []) rfl (Nat.le_of_ble_eq_true rfl) dL_law_387 (fun H locs Y => ?_)
  refine lv_aload_n X.1 X.2.1 dL_law_390 rfl (lv_at hl 2 rfl) ?_
  refine lA X hV Y hl (j := 1) (by decide) hI.1 dL_law_391 dL_law_392 dL_law_393 dL_law_394 dL_law_395 ?_
  refine lA X hV Y hl (j := 2) (by decide) hI.2.1 dL_law_396 dL_law_397 dL_law_398 dL_law_399 dL_law_400 ?_
  refine lVi X (hml.trans hl.1.symm) Y.comm (As := [.int (xs (x + 1).toNatClampNeg), .int (xs (x + 2).toNatClampNeg)]) (c_fX4_debt l D g am τ _ (xs (x + 1).toNatClampNeg) (xs (x + 2).toNatClampNeg) e2) (q0 := 0) (ci := 3) rfl rfl (gV tw_630 tw_631 tw_632 tw_36 tw_633) rfl fd_X4_debt ⟨(Nat.le_of_ble_eq_true rfl), (Nat.le_of_ble_eq_true rfl)⟩ ⟨(Nat.le_of_ble_eq_true rfl), (Nat.le_of_ble_eq_true rfl)⟩ (rest := [.int r]) rfl (Nat.le_of_ble_eq_true rfl) dL_law_401 (fun H locs Y => ?_)
  exact lv_icmp_eq (tgt := 1120) X.1 X.2.1 dL_law_404 (by decide) (fun _ => kk σ τ _ _ hR Y.comm) (fun h => absurd rfl h)
set_option maxHeartbeats 1000000 in
theorem lc_7 (X : Cx p s m c args cL_law RL cwL D g) (hml : c.maxLocals = 4) (hV : va_X b L xs s H0 ∧ b < H0.size ∧ ¬ A b) (hl : lv_has ls 4 [(0, .ref b), (1, .ref (ad 0)), (2, .ref (am 0)), (3, .int x)]) (hI : vp_in (x + 1) L ∧ vp_in (x + 2) L ∧ vp_in (x + 3) L ∧ vp_in (x + 4) L ∧ vp_in (x + 5) L) (Y : Hp D A H0 H locs (WC g ad σ ++ WM g am τ)) (hR : Rl σ τ)
    (kk : ∀ (σ' τ' : St) (H1 : Heap) (locs1 : List Loc), Rl σ' τ' → Hp D A H0 H1 locs1 (WC g ad σ' ++ WM g am τ') → W p l e room_1 s m args below meth c H1 locs1 36 790 Q (F0 m 1120 ls [])) : W p l e room_1 s m args below meth c H locs 36 790 Q (F0 m 409 ls []) := by
  refine lv_aload_n X.1 X.2.1 dL_law_409 rfl (lv_at hl 1 rfl) ?_
  refine lA X hV Y hl (j := 1) (by decide) hI.1 dL_law_410 dL_law_411 dL_law_412 dL_law_413 dL_law_414 ?_
  obtain ⟨r, e1, e2⟩ := q_pullers hR (xs (x + 1).toNatClampNeg)
  refine lVi X (hml.trans hl.1.symm) Y (As := [.int (xs (x + 1).toNatClampNeg)]) (c_fX3_pullers l D g ad σ _ (xs (x + 1).toNatClampNeg) e1) (q0 := 0) (ci := 2) rfl rfl (gV tw_240 tw_241 tw_242 tw_33 tw_243) rfl fd_X3_pullers ⟨(Nat.le_of_ble_eq_true rfl), (Nat.le_of_ble_eq_true rfl)⟩ ⟨(Nat.le_of_ble_eq_true rfl), (Nat.le_of_ble_eq_true rfl)⟩ (rest := []) rfl (Nat.le_of_ble_eq_true rfl) dL_law_415 (fun H locs Y => ?_)
  refine lv_aload_n X.1 X.2.1 dL_law_418 rfl (lv_at hl 2 rfl) ?_
  refine lA X hV Y hl (j := 1) (by decide) hI.1 dL_law_419 dL_law_420 dL_law_421 dL_law_422 dL_law_423 ?_
  refine lVi X (hml.trans hl.1.symm) Y.comm (As := [.int (xs (x + 1).toNatClampNeg)]) (c_fX4_pullers l D g am τ _ (xs (x + 1).toNatClampNeg) e2) (q0 := 0) (ci := 3) rfl rfl (gV tw_645 tw_646 tw_647 tw_36 tw_648) rfl fd_X4_pullers ⟨(Nat.le_of_ble_eq_true rfl), (Nat.le_of_ble_eq_true rfl)⟩ ⟨(Nat.le_of_ble_eq_true rfl), (Nat.le_of_ble_eq_true rfl)⟩ (rest := [.int r]) rfl (Nat.le_of_ble_eq_true rfl) dL_law_424 (fun H locs Y => ?_)
  exact lv_icmp_eq (tgt := 1120) X.1 X.2.1 dL_law_427 (by decide) (fun _ => kk σ τ _ _ hR Y.comm) (fun h => absurd rfl h)
set_option maxHeartbeats 1000000 in
theorem lc_8 (X : Cx p s m c args cL_law RL cwL D g) (hml : c.maxLocals = 4) (hV : va_X b L xs s H0 ∧ b < H0.size ∧ ¬ A b) (hl : lv_has ls 4 [(0, .ref b), (1, .ref (ad 0)), (2, .ref (am 0)), (3, .int x)]) (hI : vp_in (x + 1) L ∧ vp_in (x + 2) L ∧ vp_in (x + 3) L ∧ vp_in (x + 4) L ∧ vp_in (x + 5) L) (Y : Hp D A H0 H locs (WC g ad σ ++ WM g am τ)) (hR : Rl σ τ)
    (kk : ∀ (σ' τ' : St) (H1 : Heap) (locs1 : List Loc), Rl σ' τ' → Hp D A H0 H1 locs1 (WC g ad σ' ++ WM g am τ') → W p l e room_1 s m args below meth c H1 locs1 36 790 Q (F0 m 1120 ls [])) : W p l e room_1 s m args below meth c H locs 36 790 Q (F0 m 432 ls []) := by
  refine lv_aload_n X.1 X.2.1 dL_law_432 rfl (lv_at hl 1 rfl) ?_
  refine lA X hV Y hl (j := 1) (by decide) hI.1 dL_law_433 dL_law_434 dL_law_435 dL_law_436 dL_law_437 ?_
  obtain ⟨r, e1, e2⟩ := q_fair hR (xs (x + 1).toNatClampNeg)
  refine lVi X (hml.trans hl.1.symm) Y (As := [.int (xs (x + 1).toNatClampNeg)]) (c_fX3_fair l D g ad σ _ (xs (x + 1).toNatClampNeg) e1) (q0 := 0) (ci := 2) rfl rfl (gV tw_257 tw_258 tw_259 tw_33 tw_260) rfl fd_X3_fair ⟨(Nat.le_of_ble_eq_true rfl), (Nat.le_of_ble_eq_true rfl)⟩ ⟨(Nat.le_of_ble_eq_true rfl), (Nat.le_of_ble_eq_true rfl)⟩ (rest := []) rfl (Nat.le_of_ble_eq_true rfl) dL_law_438 (fun H locs Y => ?_)
  refine lv_aload_n X.1 X.2.1 dL_law_441 rfl (lv_at hl 2 rfl) ?_
  refine lA X hV Y hl (j := 1) (by decide) hI.1 dL_law_442 dL_law_443 dL_law_444 dL_law_445 dL_law_446 ?_
  refine lVi X (hml.trans hl.1.symm) Y.comm (As := [.int (xs (x + 1).toNatClampNeg)]) (c_fX4_fair l D g am τ _ (xs (x + 1).toNatClampNeg) e2) (q0 := 0) (ci := 3) rfl rfl (gV tw_653 tw_654 tw_655 tw_36 tw_656) rfl fd_X4_fair ⟨(Nat.le_of_ble_eq_true rfl), (Nat.le_of_ble_eq_true rfl)⟩ ⟨(Nat.le_of_ble_eq_true rfl), (Nat.le_of_ble_eq_true rfl)⟩ (rest := [.int r]) rfl (Nat.le_of_ble_eq_true rfl) dL_law_447 (fun H locs Y => ?_)
  exact lv_icmp_eq (tgt := 1120) X.1 X.2.1 dL_law_450 (by decide) (fun _ => kk σ τ _ _ hR Y.comm) (fun h => absurd rfl h)
set_option maxHeartbeats 1000000 in
theorem lc_9 (X : Cx p s m c args cL_law RL cwL D g) (hml : c.maxLocals = 4) (hV : va_X b L xs s H0 ∧ b < H0.size ∧ ¬ A b) (hl : lv_has ls 4 [(0, .ref b), (1, .ref (ad 0)), (2, .ref (am 0)), (3, .int x)]) (hI : vp_in (x + 1) L ∧ vp_in (x + 2) L ∧ vp_in (x + 3) L ∧ vp_in (x + 4) L ∧ vp_in (x + 5) L) (Y : Hp D A H0 H locs (WC g ad σ ++ WM g am τ)) (hR : Rl σ τ)
    (kk : ∀ (σ' τ' : St) (H1 : Heap) (locs1 : List Loc), Rl σ' τ' → Hp D A H0 H1 locs1 (WC g ad σ' ++ WM g am τ') → W p l e room_1 s m args below meth c H1 locs1 36 790 Q (F0 m 1120 ls [])) : W p l e room_1 s m args below meth c H locs 36 790 Q (F0 m 455 ls []) := by
  refine lv_aload_n X.1 X.2.1 dL_law_455 rfl (lv_at hl 1 rfl) ?_
  refine lA X hV Y hl (j := 1) (by decide) hI.1 dL_law_456 dL_law_457 dL_law_458 dL_law_459 dL_law_460 ?_
  refine lA X hV Y hl (j := 2) (by decide) hI.2.1 dL_law_461 dL_law_462 dL_law_463 dL_law_464 dL_law_465 ?_
  refine lA X hV Y hl (j := 3) (by decide) hI.2.2.1 dL_law_466 dL_law_467 dL_law_468 dL_law_469 dL_law_470 ?_
  refine lA X hV Y hl (j := 4) (by decide) hI.2.2.2.1 dL_law_471 dL_law_472 dL_law_473 dL_law_474 dL_law_475 ?_
  refine lA X hV Y hl (j := 5) (by decide) hI.2.2.2.2 dL_law_476 dL_law_477 dL_law_478 dL_law_479 dL_law_480 ?_
  obtain ⟨r, σ', τ', e1, e2, hR2⟩ := q_loads hR (xs (x + 1).toNatClampNeg) (xs (x + 2).toNatClampNeg) (xs (x + 3).toNatClampNeg) (xs (x + 4).toNatClampNeg) (xs (x + 5).toNatClampNeg)
  refine lVi X (hml.trans hl.1.symm) Y (As := [.int (xs (x + 1).toNatClampNeg), .int (xs (x + 2).toNatClampNeg), .int (xs (x + 3).toNatClampNeg), .int (xs (x + 4).toNatClampNeg), .int (xs (x + 5).toNatClampNeg)]) (c_fX3_loads l D g ad σ _ (xs (x + 1).toNatClampNeg) (xs (x + 2).toNatClampNeg) (xs (x + 3).toNatClampNeg) (xs (x + 4).toNatClampNeg) (xs (x + 5).toNatClampNeg) e1) (q0 := 0) (ci := 2) rfl rfl (gV tw_272 tw_273 tw_274 tw_33 tw_275) rfl fd_X3_loads ⟨(Nat.le_of_ble_eq_true rfl), (Nat.le_of_ble_eq_true rfl)⟩ ⟨(Nat.le_of_ble_eq_true rfl), (Nat.le_of_ble_eq_true rfl)⟩ (rest := []) rfl (Nat.le_of_ble_eq_true rfl) dL_law_481 (fun H locs Y => ?_)
  refine lv_aload_n X.1 X.2.1 dL_law_484 rfl (lv_at hl 2 rfl) ?_
  refine lA X hV Y hl (j := 1) (by decide) hI.1 dL_law_485 dL_law_486 dL_law_487 dL_law_488 dL_law_489 ?_
  refine lA X hV Y hl (j := 2) (by decide) hI.2.1 dL_law_490 dL_law_491 dL_law_492 dL_law_493 dL_law_494 ?_
  refine lA X hV Y hl (j := 3) (by decide) hI.2.2.1 dL_law_495 dL_law_496 dL_law_497 dL_law_498 dL_law_499 ?_
  refine lA X hV Y hl (j := 4) (by decide) hI.2.2.2.1 dL_law_500 dL_law_501 dL_law_502 dL_law_503 dL_law_504 ?_
  refine lA X hV Y hl (j := 5) (by decide) hI.2.2.2.2 dL_law_505 dL_law_506 dL_law_507 dL_law_508 dL_law_509 ?_
  refine lVi X (hml.trans hl.1.symm) Y.comm (As := [.int (xs (x + 1).toNatClampNeg), .int (xs (x + 2).toNatClampNeg), .int (xs (x + 3).toNatClampNeg), .int (xs (x + 4).toNatClampNeg), .int (xs (x + 5).toNatClampNeg)]) (c_fX4_loads l D g am τ _ (xs (x + 1).toNatClampNeg) (xs (x + 2).toNatClampNeg) (xs (x + 3).toNatClampNeg) (xs (x + 4).toNatClampNeg) (xs (x + 5).toNatClampNeg) e2) (q0 := 0) (ci := 3) rfl rfl (gV tw_664 tw_665 tw_666 tw_36 tw_667) rfl fd_X4_loads ⟨(Nat.le_of_ble_eq_true rfl), (Nat.le_of_ble_eq_true rfl)⟩ ⟨(Nat.le_of_ble_eq_true rfl), (Nat.le_of_ble_eq_true rfl)⟩ (rest := [.int r]) rfl (Nat.le_of_ble_eq_true rfl) dL_law_510 (fun H locs Y => ?_)
  exact lv_icmp_eq (tgt := 1120) X.1 X.2.1 dL_law_513 (by decide) (fun _ => kk σ' τ' _ _ hR2 Y.comm) (fun h => absurd rfl h)
set_option maxHeartbeats 1000000 in
theorem lc_10 (X : Cx p s m c args cL_law RL cwL D g) (hml : c.maxLocals = 4) (hV : va_X b L xs s H0 ∧ b < H0.size ∧ ¬ A b) (hl : lv_has ls 4 [(0, .ref b), (1, .ref (ad 0)), (2, .ref (am 0)), (3, .int x)]) (hI : vp_in (x + 1) L ∧ vp_in (x + 2) L ∧ vp_in (x + 3) L ∧ vp_in (x + 4) L ∧ vp_in (x + 5) L) (Y : Hp D A H0 H locs (WC g ad σ ++ WM g am τ)) (hR : Rl σ τ)
    (kk : ∀ (σ' τ' : St) (H1 : Heap) (locs1 : List Loc), Rl σ' τ' → Hp D A H0 H1 locs1 (WC g ad σ' ++ WM g am τ') → W p l e room_1 s m args below meth c H1 locs1 36 790 Q (F0 m 1120 ls [])) : W p l e room_1 s m args below meth c H locs 36 790 Q (F0 m 518 ls []) := by
  refine lv_aload_n X.1 X.2.1 dL_law_518 rfl (lv_at hl 1 rfl) ?_
  refine lA X hV Y hl (j := 1) (by decide) hI.1 dL_law_519 dL_law_520 dL_law_521 dL_law_522 dL_law_523 ?_
  obtain ⟨r, σ', τ', e1, e2, hR2⟩ := q_cross hR (xs (x + 1).toNatClampNeg)
  refine lVi X (hml.trans hl.1.symm) Y (As := [.int (xs (x + 1).toNatClampNeg)]) (c_fX3_cross l D g ad σ _ (xs (x + 1).toNatClampNeg) e1) (q0 := 0) (ci := 2) rfl rfl (gV tw_297 tw_298 tw_299 tw_33 tw_300) rfl fd_X3_cross ⟨(Nat.le_of_ble_eq_true rfl), (Nat.le_of_ble_eq_true rfl)⟩ ⟨(Nat.le_of_ble_eq_true rfl), (Nat.le_of_ble_eq_true rfl)⟩ (rest := []) rfl (Nat.le_of_ble_eq_true rfl) dL_law_524 (fun H locs Y => ?_)
  refine lv_aload_n X.1 X.2.1 dL_law_527 rfl (lv_at hl 2 rfl) ?_
  refine lA X hV Y hl (j := 1) (by decide) hI.1 dL_law_528 dL_law_529 dL_law_530 dL_law_531 dL_law_532 ?_
  refine lVi X (hml.trans hl.1.symm) Y.comm (As := [.int (xs (x + 1).toNatClampNeg)]) (c_fX4_cross l D g am τ _ (xs (x + 1).toNatClampNeg) e2) (q0 := 0) (ci := 3) rfl rfl (gV tw_676 tw_677 tw_678 tw_36 tw_679) rfl fd_X4_cross ⟨(Nat.le_of_ble_eq_true rfl), (Nat.le_of_ble_eq_true rfl)⟩ ⟨(Nat.le_of_ble_eq_true rfl), (Nat.le_of_ble_eq_true rfl)⟩ (rest := [.int r]) rfl (Nat.le_of_ble_eq_true rfl) dL_law_533 (fun H locs Y => ?_)
  exact lv_icmp_eq (tgt := 1120) X.1 X.2.1 dL_law_536 (by decide) (fun _ => kk σ' τ' _ _ hR2 Y.comm) (fun h => absurd rfl h)
set_option maxHeartbeats 1000000 in
theorem lc_11 (X : Cx p s m c args cL_law RL cwL D g) (hml : c.maxLocals = 4) (hV : va_X b L xs s H0 ∧ b < H0.size ∧ ¬ A b) (hl : lv_has ls 4 [(0, .ref b), (1, .ref (ad 0)), (2, .ref (am 0)), (3, .int x)]) (hI : vp_in (x + 1) L ∧ vp_in (x + 2) L ∧ vp_in (x + 3) L ∧ vp_in (x + 4) L ∧ vp_in (x + 5) L) (Y : Hp D A H0 H locs (WC g ad σ ++ WM g am τ)) (hR : Rl σ τ)
    (kk : ∀ (σ' τ' : St) (H1 : Heap) (locs1 : List Loc), Rl σ' τ' → Hp D A H0 H1 locs1 (WC g ad σ' ++ WM g am τ') → W p l e room_1 s m args below meth c H1 locs1 36 790 Q (F0 m 1120 ls [])) : W p l e room_1 s m args below meth c H locs 36 790 Q (F0 m 541 ls []) := by
  refine lv_aload_n X.1 X.2.1 dL_law_541 rfl (lv_at hl 1 rfl) ?_
  refine lA X hV Y hl (j := 1) (by decide) hI.1 dL_law_542 dL_law_543 dL_law_544 dL_law_545 dL_law_546 ?_
  refine lA X hV Y hl (j := 2) (by decide) hI.2.1 dL_law_547 dL_law_548 dL_law_549 dL_law_550 dL_law_551 ?_
  refine lA X hV Y hl (j := 3) (by decide) hI.2.2.1 dL_law_552 dL_law_553 dL_law_554 dL_law_555 dL_law_556 ?_
  obtain ⟨r, σ', τ', e1, e2, hR2⟩ := q_loan hR (xs (x + 1).toNatClampNeg) (xs (x + 2).toNatClampNeg) (xs (x + 3).toNatClampNeg)
  refine lVi X (hml.trans hl.1.symm) Y (As := [.int (xs (x + 1).toNatClampNeg), .int (xs (x + 2).toNatClampNeg), .int (xs (x + 3).toNatClampNeg)]) (c_fX3_loan l D g ad σ _ (xs (x + 1).toNatClampNeg) (xs (x + 2).toNatClampNeg) (xs (x + 3).toNatClampNeg) e1) (q0 := 0) (ci := 2) rfl rfl (gV tw_321 tw_322 tw_323 tw_33 tw_324) rfl fd_X3_loan ⟨(Nat.le_of_ble_eq_true rfl), (Nat.le_of_ble_eq_true rfl)⟩ ⟨(Nat.le_of_ble_eq_true rfl), (Nat.le_of_ble_eq_true rfl)⟩ (rest := []) rfl (Nat.le_of_ble_eq_true rfl) dL_law_557 (fun H locs Y => ?_)
  refine lv_aload_n X.1 X.2.1 dL_law_560 rfl (lv_at hl 2 rfl) ?_
  refine lA X hV Y hl (j := 1) (by decide) hI.1 dL_law_561 dL_law_562 dL_law_563 dL_law_564 dL_law_565 ?_
  refine lA X hV Y hl (j := 2) (by decide) hI.2.1 dL_law_566 dL_law_567 dL_law_568 dL_law_569 dL_law_570 ?_
  refine lA X hV Y hl (j := 3) (by decide) hI.2.2.1 dL_law_571 dL_law_572 dL_law_573 dL_law_574 dL_law_575 ?_
  refine lVi X (hml.trans hl.1.symm) Y.comm (As := [.int (xs (x + 1).toNatClampNeg), .int (xs (x + 2).toNatClampNeg), .int (xs (x + 3).toNatClampNeg)]) (c_fX4_loan l D g am τ _ (xs (x + 1).toNatClampNeg) (xs (x + 2).toNatClampNeg) (xs (x + 3).toNatClampNeg) e2) (q0 := 0) (ci := 3) rfl rfl (gV tw_688 tw_689 tw_690 tw_36 tw_691) rfl fd_X4_loan ⟨(Nat.le_of_ble_eq_true rfl), (Nat.le_of_ble_eq_true rfl)⟩ ⟨(Nat.le_of_ble_eq_true rfl), (Nat.le_of_ble_eq_true rfl)⟩ (rest := [.int r]) rfl (Nat.le_of_ble_eq_true rfl) dL_law_576 (fun H locs Y => ?_)
  exact lv_icmp_eq (tgt := 1120) X.1 X.2.1 dL_law_579 (by decide) (fun _ => kk σ' τ' _ _ hR2 Y.comm) (fun h => absurd rfl h)
set_option maxHeartbeats 1000000 in
theorem lc_12 (X : Cx p s m c args cL_law RL cwL D g) (hml : c.maxLocals = 4) (hV : va_X b L xs s H0 ∧ b < H0.size ∧ ¬ A b) (hl : lv_has ls 4 [(0, .ref b), (1, .ref (ad 0)), (2, .ref (am 0)), (3, .int x)]) (hI : vp_in (x + 1) L ∧ vp_in (x + 2) L ∧ vp_in (x + 3) L ∧ vp_in (x + 4) L ∧ vp_in (x + 5) L) (Y : Hp D A H0 H locs (WC g ad σ ++ WM g am τ)) (hR : Rl σ τ)
    (kk : ∀ (σ' τ' : St) (H1 : Heap) (locs1 : List Loc), Rl σ' τ' → Hp D A H0 H1 locs1 (WC g ad σ' ++ WM g am τ') → W p l e room_1 s m args below meth c H1 locs1 36 790 Q (F0 m 1120 ls [])) : W p l e room_1 s m args below meth c H locs 36 790 Q (F0 m 584 ls []) := by
  refine lv_aload_n X.1 X.2.1 dL_law_584 rfl (lv_at hl 1 rfl) ?_
  refine lA X hV Y hl (j := 1) (by decide) hI.1 dL_law_585 dL_law_586 dL_law_587 dL_law_588 dL_law_589 ?_
  obtain ⟨r, τ', e1, e2, hR2⟩ := q_forgave hR (xs (x + 1).toNatClampNeg)
  refine lVi X (hml.trans hl.1.symm) Y (As := [.int (xs (x + 1).toNatClampNeg)]) (c_fX3_forgave l D g ad σ _ (xs (x + 1).toNatClampNeg) e1) (q0 := 0) (ci := 2) rfl rfl (gV tw_329 tw_330 tw_331 tw_33 tw_332) rfl fd_X3_forgave ⟨(Nat.le_of_ble_eq_true rfl), (Nat.le_of_ble_eq_true rfl)⟩ ⟨(Nat.le_of_ble_eq_true rfl), (Nat.le_of_ble_eq_true rfl)⟩ (rest := []) rfl (Nat.le_of_ble_eq_true rfl) dL_law_590 (fun H locs Y => ?_)
  refine lv_aload_n X.1 X.2.1 dL_law_593 rfl (lv_at hl 2 rfl) ?_
  refine lA X hV Y hl (j := 1) (by decide) hI.1 dL_law_594 dL_law_595 dL_law_596 dL_law_597 dL_law_598 ?_
  refine lVi X (hml.trans hl.1.symm) Y.comm (As := [.int (xs (x + 1).toNatClampNeg)]) (c_fX4_forgave l D g am τ _ (xs (x + 1).toNatClampNeg) e2) (q0 := 0) (ci := 3) rfl rfl (gV tw_696 tw_697 tw_698 tw_36 tw_699) rfl fd_X4_forgave ⟨(Nat.le_of_ble_eq_true rfl), (Nat.le_of_ble_eq_true rfl)⟩ ⟨(Nat.le_of_ble_eq_true rfl), (Nat.le_of_ble_eq_true rfl)⟩ (rest := [.int r]) rfl (Nat.le_of_ble_eq_true rfl) dL_law_599 (fun H locs Y => ?_)
  exact lv_icmp_eq (tgt := 1120) X.1 X.2.1 dL_law_602 (by decide) (fun _ => kk σ τ' _ _ hR2 Y.comm) (fun h => absurd rfl h)
set_option maxHeartbeats 1000000 in
theorem lc_13 (X : Cx p s m c args cL_law RL cwL D g) (hml : c.maxLocals = 4) (hV : va_X b L xs s H0 ∧ b < H0.size ∧ ¬ A b) (hl : lv_has ls 4 [(0, .ref b), (1, .ref (ad 0)), (2, .ref (am 0)), (3, .int x)]) (hI : vp_in (x + 1) L ∧ vp_in (x + 2) L ∧ vp_in (x + 3) L ∧ vp_in (x + 4) L ∧ vp_in (x + 5) L) (Y : Hp D A H0 H locs (WC g ad σ ++ WM g am τ)) (hR : Rl σ τ)
    (kk : ∀ (σ' τ' : St) (H1 : Heap) (locs1 : List Loc), Rl σ' τ' → Hp D A H0 H1 locs1 (WC g ad σ' ++ WM g am τ') → W p l e room_1 s m args below meth c H1 locs1 36 790 Q (F0 m 1120 ls [])) : W p l e room_1 s m args below meth c H locs 36 790 Q (F0 m 607 ls []) := by
  refine lv_aload_n X.1 X.2.1 dL_law_607 rfl (lv_at hl 1 rfl) ?_
  refine lA X hV Y hl (j := 1) (by decide) hI.1 dL_law_608 dL_law_609 dL_law_610 dL_law_611 dL_law_612 ?_
  refine lA X hV Y hl (j := 2) (by decide) hI.2.1 dL_law_613 dL_law_614 dL_law_615 dL_law_616 dL_law_617 ?_
  obtain ⟨r, σ', τ', e1, e2, hR2⟩ := q_reading hR (xs (x + 1).toNatClampNeg) (xs (x + 2).toNatClampNeg)
  refine lVi X (hml.trans hl.1.symm) Y (As := [.int (xs (x + 1).toNatClampNeg), .int (xs (x + 2).toNatClampNeg)]) (c_fX3_reading l D g ad σ (xs (x + 1).toNatClampNeg) (xs (x + 2).toNatClampNeg) e1) (q0 := 0) (ci := 2) rfl rfl (gV tw_335 tw_336 tw_337 tw_33 tw_338) rfl fd_X3_reading ⟨(Nat.le_of_ble_eq_true rfl), (Nat.le_of_ble_eq_true rfl)⟩ ⟨(Nat.le_of_ble_eq_true rfl), (Nat.le_of_ble_eq_true rfl)⟩ (rest := []) rfl (Nat.le_of_ble_eq_true rfl) dL_law_618 (fun H locs Y => ?_)
  refine lv_aload_n X.1 X.2.1 dL_law_621 rfl (lv_at hl 2 rfl) ?_
  refine lA X hV Y hl (j := 1) (by decide) hI.1 dL_law_622 dL_law_623 dL_law_624 dL_law_625 dL_law_626 ?_
  refine lA X hV Y hl (j := 2) (by decide) hI.2.1 dL_law_627 dL_law_628 dL_law_629 dL_law_630 dL_law_631 ?_
  refine lVi X (hml.trans hl.1.symm) Y.comm (As := [.int (xs (x + 1).toNatClampNeg), .int (xs (x + 2).toNatClampNeg)]) (c_fX4_reading l D g am τ (xs (x + 1).toNatClampNeg) (xs (x + 2).toNatClampNeg) e2) (q0 := 0) (ci := 3) rfl rfl (gV tw_700 tw_701 tw_702 tw_36 tw_703) rfl fd_X4_reading ⟨(Nat.le_of_ble_eq_true rfl), (Nat.le_of_ble_eq_true rfl)⟩ ⟨(Nat.le_of_ble_eq_true rfl), (Nat.le_of_ble_eq_true rfl)⟩ (rest := [.int r]) rfl (Nat.le_of_ble_eq_true rfl) dL_law_632 (fun H locs Y => ?_)
  exact lv_icmp_eq (tgt := 1120) X.1 X.2.1 dL_law_635 (by decide) (fun _ => kk σ' τ' _ _ hR2 Y.comm) (fun h => absurd rfl h)
set_option maxHeartbeats 1000000 in
theorem lc_14 (X : Cx p s m c args cL_law RL cwL D g) (hml : c.maxLocals = 4) (hV : va_X b L xs s H0 ∧ b < H0.size ∧ ¬ A b) (hl : lv_has ls 4 [(0, .ref b), (1, .ref (ad 0)), (2, .ref (am 0)), (3, .int x)]) (hI : vp_in (x + 1) L ∧ vp_in (x + 2) L ∧ vp_in (x + 3) L ∧ vp_in (x + 4) L ∧ vp_in (x + 5) L) (Y : Hp D A H0 H locs (WC g ad σ ++ WM g am τ)) (hR : Rl σ τ)
    (kk : ∀ (σ' τ' : St) (H1 : Heap) (locs1 : List Loc), Rl σ' τ' → Hp D A H0 H1 locs1 (WC g ad σ' ++ WM g am τ') → W p l e room_1 s m args below meth c H1 locs1 36 790 Q (F0 m 1120 ls [])) : W p l e room_1 s m args below meth c H locs 36 790 Q (F0 m 640 ls []) := by
  refine lv_aload_n X.1 X.2.1 dL_law_640 rfl (lv_at hl 1 rfl) ?_
  refine lA X hV Y hl (j := 1) (by decide) hI.1 dL_law_641 dL_law_642 dL_law_643 dL_law_644 dL_law_645 ?_
  obtain ⟨r, σ', τ', e1, e2, hR2⟩ := q_back hR (xs (x + 1).toNatClampNeg)
  refine lVi X (hml.trans hl.1.symm) Y (As := [.int (xs (x + 1).toNatClampNeg)]) (c_fX3_back l D g ad σ (xs (x + 1).toNatClampNeg) e1) (q0 := 0) (ci := 2) rfl rfl (gV tw_339 tw_340 tw_341 tw_33 tw_342) rfl fd_X3_back ⟨(Nat.le_of_ble_eq_true rfl), (Nat.le_of_ble_eq_true rfl)⟩ ⟨(Nat.le_of_ble_eq_true rfl), (Nat.le_of_ble_eq_true rfl)⟩ (rest := []) rfl (Nat.le_of_ble_eq_true rfl) dL_law_646 (fun H locs Y => ?_)
  refine lv_aload_n X.1 X.2.1 dL_law_649 rfl (lv_at hl 2 rfl) ?_
  refine lA X hV Y hl (j := 1) (by decide) hI.1 dL_law_650 dL_law_651 dL_law_652 dL_law_653 dL_law_654 ?_
  refine lVi X (hml.trans hl.1.symm) Y.comm (As := [.int (xs (x + 1).toNatClampNeg)]) (c_fX4_back l D g am τ (xs (x + 1).toNatClampNeg) e2) (q0 := 0) (ci := 3) rfl rfl (gV tw_704 tw_705 tw_706 tw_36 tw_707) rfl fd_X4_back ⟨(Nat.le_of_ble_eq_true rfl), (Nat.le_of_ble_eq_true rfl)⟩ ⟨(Nat.le_of_ble_eq_true rfl), (Nat.le_of_ble_eq_true rfl)⟩ (rest := [.int r]) rfl (Nat.le_of_ble_eq_true rfl) dL_law_655 (fun H locs Y => ?_)
  exact lv_icmp_eq (tgt := 1120) X.1 X.2.1 dL_law_658 (by decide) (fun _ => kk σ' τ' _ _ hR2 Y.comm) (fun h => absurd rfl h)
set_option maxHeartbeats 1000000 in
theorem lc_15 (X : Cx p s m c args cL_law RL cwL D g) (hml : c.maxLocals = 4) (hV : va_X b L xs s H0 ∧ b < H0.size ∧ ¬ A b) (hl : lv_has ls 4 [(0, .ref b), (1, .ref (ad 0)), (2, .ref (am 0)), (3, .int x)]) (hI : vp_in (x + 1) L ∧ vp_in (x + 2) L ∧ vp_in (x + 3) L ∧ vp_in (x + 4) L ∧ vp_in (x + 5) L) (Y : Hp D A H0 H locs (WC g ad σ ++ WM g am τ)) (hR : Rl σ τ)
    (kk : ∀ (σ' τ' : St) (H1 : Heap) (locs1 : List Loc), Rl σ' τ' → Hp D A H0 H1 locs1 (WC g ad σ' ++ WM g am τ') → W p l e room_1 s m args below meth c H1 locs1 36 790 Q (F0 m 1120 ls [])) : W p l e room_1 s m args below meth c H locs 36 790 Q (F0 m 663 ls []) := by
  refine lv_aload_n X.1 X.2.1 dL_law_663 rfl (lv_at hl 1 rfl) ?_
  refine lA X hV Y hl (j := 1) (by decide) hI.1 dL_law_664 dL_law_665 dL_law_666 dL_law_667 dL_law_668 ?_
  refine lA X hV Y hl (j := 2) (by decide) hI.2.1 dL_law_669 dL_law_670 dL_law_671 dL_law_672 dL_law_673 ?_
  obtain ⟨r, σ', τ', e1, e2, hR2⟩ := q_notes hR (xs (x + 1).toNatClampNeg) (xs (x + 2).toNatClampNeg)
  refine lVi X (hml.trans hl.1.symm) Y (As := [.int (xs (x + 1).toNatClampNeg), .int (xs (x + 2).toNatClampNeg)]) (c_fX3_notes l D g ad σ _ (xs (x + 1).toNatClampNeg) (xs (x + 2).toNatClampNeg) e1) (q0 := 0) (ci := 2) rfl rfl (gV tw_343 tw_344 tw_345 tw_33 tw_346) rfl fd_X3_notes ⟨(Nat.le_of_ble_eq_true rfl), (Nat.le_of_ble_eq_true rfl)⟩ ⟨(Nat.le_of_ble_eq_true rfl), (Nat.le_of_ble_eq_true rfl)⟩ (rest := []) rfl (Nat.le_of_ble_eq_true rfl) dL_law_674 (fun H locs Y => ?_)
  refine lv_aload_n X.1 X.2.1 dL_law_677 rfl (lv_at hl 2 rfl) ?_
  refine lA X hV Y hl (j := 1) (by decide) hI.1 dL_law_678 dL_law_679 dL_law_680 dL_law_681 dL_law_682 ?_
  refine lA X hV Y hl (j := 2) (by decide) hI.2.1 dL_law_683 dL_law_684 dL_law_685 dL_law_686 dL_law_687 ?_
  refine lVi X (hml.trans hl.1.symm) Y.comm (As := [.int (xs (x + 1).toNatClampNeg), .int (xs (x + 2).toNatClampNeg)]) (c_fX4_notes l D g am τ _ (xs (x + 1).toNatClampNeg) (xs (x + 2).toNatClampNeg) e2) (q0 := 0) (ci := 3) rfl rfl (gV tw_708 tw_709 tw_710 tw_36 tw_711) rfl fd_X4_notes ⟨(Nat.le_of_ble_eq_true rfl), (Nat.le_of_ble_eq_true rfl)⟩ ⟨(Nat.le_of_ble_eq_true rfl), (Nat.le_of_ble_eq_true rfl)⟩ (rest := [.int r]) rfl (Nat.le_of_ble_eq_true rfl) dL_law_688 (fun H locs Y => ?_)
  exact lv_icmp_eq (tgt := 1120) X.1 X.2.1 dL_law_691 (by decide) (fun _ => kk σ' τ' _ _ hR2 Y.comm) (fun h => absurd rfl h)
set_option maxHeartbeats 1000000 in
theorem lc_16 (X : Cx p s m c args cL_law RL cwL D g) (hml : c.maxLocals = 4) (hV : va_X b L xs s H0 ∧ b < H0.size ∧ ¬ A b) (hl : lv_has ls 4 [(0, .ref b), (1, .ref (ad 0)), (2, .ref (am 0)), (3, .int x)]) (hI : vp_in (x + 1) L ∧ vp_in (x + 2) L ∧ vp_in (x + 3) L ∧ vp_in (x + 4) L ∧ vp_in (x + 5) L) (Y : Hp D A H0 H locs (WC g ad σ ++ WM g am τ)) (hR : Rl σ τ)
    (kk : ∀ (σ' τ' : St) (H1 : Heap) (locs1 : List Loc), Rl σ' τ' → Hp D A H0 H1 locs1 (WC g ad σ' ++ WM g am τ') → W p l e room_1 s m args below meth c H1 locs1 36 790 Q (F0 m 1120 ls [])) : W p l e room_1 s m args below meth c H locs 36 790 Q (F0 m 696 ls []) := by
  refine lv_aload_n X.1 X.2.1 dL_law_696 rfl (lv_at hl 1 rfl) ?_
  refine lA X hV Y hl (j := 1) (by decide) hI.1 dL_law_697 dL_law_698 dL_law_699 dL_law_700 dL_law_701 ?_
  obtain ⟨r, σ', τ', e1, e2, hR2⟩ := q_kinds hR (xs (x + 1).toNatClampNeg)
  refine lVi X (hml.trans hl.1.symm) Y (As := [.int (xs (x + 1).toNatClampNeg)]) (c_fX3_kinds l D g ad σ _ (xs (x + 1).toNatClampNeg) e1) (q0 := 0) (ci := 2) rfl rfl (gV tw_355 tw_356 tw_357 tw_33 tw_358) rfl fd_X3_kinds ⟨(Nat.le_of_ble_eq_true rfl), (Nat.le_of_ble_eq_true rfl)⟩ ⟨(Nat.le_of_ble_eq_true rfl), (Nat.le_of_ble_eq_true rfl)⟩ (rest := []) rfl (Nat.le_of_ble_eq_true rfl) dL_law_702 (fun H locs Y => ?_)
  refine lv_aload_n X.1 X.2.1 dL_law_705 rfl (lv_at hl 2 rfl) ?_
  refine lA X hV Y hl (j := 1) (by decide) hI.1 dL_law_706 dL_law_707 dL_law_708 dL_law_709 dL_law_710 ?_
  refine lVi X (hml.trans hl.1.symm) Y.comm (As := [.int (xs (x + 1).toNatClampNeg)]) (c_fX4_kinds l D g am τ _ (xs (x + 1).toNatClampNeg) e2) (q0 := 0) (ci := 3) rfl rfl (gV tw_716 tw_717 tw_718 tw_36 tw_719) rfl fd_X4_kinds ⟨(Nat.le_of_ble_eq_true rfl), (Nat.le_of_ble_eq_true rfl)⟩ ⟨(Nat.le_of_ble_eq_true rfl), (Nat.le_of_ble_eq_true rfl)⟩ (rest := [.int r]) rfl (Nat.le_of_ble_eq_true rfl) dL_law_711 (fun H locs Y => ?_)
  exact lv_icmp_eq (tgt := 1120) X.1 X.2.1 dL_law_714 (by decide) (fun _ => kk σ' τ' _ _ hR2 Y.comm) (fun h => absurd rfl h)
set_option maxHeartbeats 1000000 in
theorem lc_17 (X : Cx p s m c args cL_law RL cwL D g) (hml : c.maxLocals = 4) (hV : va_X b L xs s H0 ∧ b < H0.size ∧ ¬ A b) (hl : lv_has ls 4 [(0, .ref b), (1, .ref (ad 0)), (2, .ref (am 0)), (3, .int x)]) (hI : vp_in (x + 1) L ∧ vp_in (x + 2) L ∧ vp_in (x + 3) L ∧ vp_in (x + 4) L ∧ vp_in (x + 5) L) (Y : Hp D A H0 H locs (WC g ad σ ++ WM g am τ)) (hR : Rl σ τ)
    (kk : ∀ (σ' τ' : St) (H1 : Heap) (locs1 : List Loc), Rl σ' τ' → Hp D A H0 H1 locs1 (WC g ad σ' ++ WM g am τ') → W p l e room_1 s m args below meth c H1 locs1 36 790 Q (F0 m 1120 ls [])) : W p l e room_1 s m args below meth c H locs 36 790 Q (F0 m 719 ls []) := by
  refine lv_aload_n X.1 X.2.1 dL_law_719 rfl (lv_at hl 1 rfl) ?_
  obtain ⟨r, σ', τ', e1, e2, hR2⟩ := q_often hR 
  refine lVi X (hml.trans hl.1.symm) Y (As := []) (c_fX3_often l D g ad σ _  e1) (q0 := 0) (ci := 2) rfl rfl (gV tw_363 tw_364 tw_365 tw_33 tw_366) rfl fd_X3_often ⟨(Nat.le_of_ble_eq_true rfl), (Nat.le_of_ble_eq_true rfl)⟩ ⟨(Nat.le_of_ble_eq_true rfl), (Nat.le_of_ble_eq_true rfl)⟩ (rest := []) rfl (Nat.le_of_ble_eq_true rfl) dL_law_720 (fun H locs Y => ?_)
  refine lv_aload_n X.1 X.2.1 dL_law_723 rfl (lv_at hl 2 rfl) ?_
  refine lVi X (hml.trans hl.1.symm) Y.comm (As := []) (c_fX4_often l D g am τ _  e2) (q0 := 0) (ci := 3) rfl rfl (gV tw_720 tw_721 tw_722 tw_36 tw_723) rfl fd_X4_often ⟨(Nat.le_of_ble_eq_true rfl), (Nat.le_of_ble_eq_true rfl)⟩ ⟨(Nat.le_of_ble_eq_true rfl), (Nat.le_of_ble_eq_true rfl)⟩ (rest := [.int r]) rfl (Nat.le_of_ble_eq_true rfl) dL_law_724 (fun H locs Y => ?_)
  exact lv_icmp_eq (tgt := 1120) X.1 X.2.1 dL_law_727 (by decide) (fun _ => kk σ' τ' _ _ hR2 Y.comm) (fun h => absurd rfl h)
set_option maxHeartbeats 1000000 in
theorem lc_18 (X : Cx p s m c args cL_law RL cwL D g) (hml : c.maxLocals = 4) (hV : va_X b L xs s H0 ∧ b < H0.size ∧ ¬ A b) (hl : lv_has ls 4 [(0, .ref b), (1, .ref (ad 0)), (2, .ref (am 0)), (3, .int x)]) (hI : vp_in (x + 1) L ∧ vp_in (x + 2) L ∧ vp_in (x + 3) L ∧ vp_in (x + 4) L ∧ vp_in (x + 5) L) (Y : Hp D A H0 H locs (WC g ad σ ++ WM g am τ)) (hR : Rl σ τ)
    (kk : ∀ (σ' τ' : St) (H1 : Heap) (locs1 : List Loc), Rl σ' τ' → Hp D A H0 H1 locs1 (WC g ad σ' ++ WM g am τ') → W p l e room_1 s m args below meth c H1 locs1 36 790 Q (F0 m 1120 ls [])) : W p l e room_1 s m args below meth c H locs 36 790 Q (F0 m 732 ls []) := by
  refine lv_aload_n X.1 X.2.1 dL_law_732 rfl (lv_at hl 1 rfl) ?_
  refine lA X hV Y hl (j := 1) (by decide) hI.1 dL_law_733 dL_law_734 dL_law_735 dL_law_736 dL_law_737 ?_
  refine lA X hV Y hl (j := 2) (by decide) hI.2.1 dL_law_738 dL_law_739 dL_law_740 dL_law_741 dL_law_742 ?_
  refine lA X hV Y hl (j := 3) (by decide) hI.2.2.1 dL_law_743 dL_law_744 dL_law_745 dL_law_746 dL_law_747 ?_
  obtain ⟨r, τ', e1, e2, hR2⟩ := q_odds hR (xs (x + 1).toNatClampNeg) (xs (x + 2).toNatClampNeg) (xs (x + 3).toNatClampNeg)
  refine lVl X (hml.trans hl.1.symm) Y (As := [.int (xs (x + 1).toNatClampNeg), .int (xs (x + 2).toNatClampNeg), .int (xs (x + 3).toNatClampNeg)]) (c_fX3_odds l D g ad σ _ (xs (x + 1).toNatClampNeg) (xs (x + 2).toNatClampNeg) (xs (x + 3).toNatClampNeg) e1) (q0 := 0) (ci := 2) rfl rfl (gV tw_371 tw_372 tw_373 tw_33 tw_374) rfl fd_X3_odds ⟨(Nat.le_of_ble_eq_true rfl), (Nat.le_of_ble_eq_true rfl)⟩ ⟨(Nat.le_of_ble_eq_true rfl), (Nat.le_of_ble_eq_true rfl)⟩ (rest := []) rfl (Nat.le_of_ble_eq_true rfl) dL_law_748 (fun H locs Y => ?_)
  refine lv_aload_n X.1 X.2.1 dL_law_751 rfl (lv_at hl 2 rfl) ?_
  refine lA X hV Y hl (j := 1) (by decide) hI.1 dL_law_752 dL_law_753 dL_law_754 dL_law_755 dL_law_756 ?_
  refine lA X hV Y hl (j := 2) (by decide) hI.2.1 dL_law_757 dL_law_758 dL_law_759 dL_law_760 dL_law_761 ?_
  refine lA X hV Y hl (j := 3) (by decide) hI.2.2.1 dL_law_762 dL_law_763 dL_law_764 dL_law_765 dL_law_766 ?_
  refine lVl X (hml.trans hl.1.symm) Y.comm (As := [.int (xs (x + 1).toNatClampNeg), .int (xs (x + 2).toNatClampNeg), .int (xs (x + 3).toNatClampNeg)]) (c_fX4_odds l D g am τ _ (xs (x + 1).toNatClampNeg) (xs (x + 2).toNatClampNeg) (xs (x + 3).toNatClampNeg) e2) (q0 := 0) (ci := 3) rfl rfl (gV tw_724 tw_725 tw_726 tw_36 tw_727) rfl fd_X4_odds ⟨(Nat.le_of_ble_eq_true rfl), (Nat.le_of_ble_eq_true rfl)⟩ ⟨(Nat.le_of_ble_eq_true rfl), (Nat.le_of_ble_eq_true rfl)⟩ (rest := [.long r]) rfl (Nat.le_of_ble_eq_true rfl) dL_law_767 (fun H locs Y => ?_)
  refine W.lcmp X.1 X.2.1 dL_law_770 ?_
  rw [lg_self]
  exact lv_if_eq (tgt := 1120) X.1 X.2.1 dL_law_771 (by decide) (fun _ => kk σ τ' _ _ hR2 Y.comm) (fun h => absurd rfl h)
set_option maxHeartbeats 1000000 in
theorem lc_19 (X : Cx p s m c args cL_law RL cwL D g) (hml : c.maxLocals = 4) (hV : va_X b L xs s H0 ∧ b < H0.size ∧ ¬ A b) (hl : lv_has ls 4 [(0, .ref b), (1, .ref (ad 0)), (2, .ref (am 0)), (3, .int x)]) (hI : vp_in (x + 1) L ∧ vp_in (x + 2) L ∧ vp_in (x + 3) L ∧ vp_in (x + 4) L ∧ vp_in (x + 5) L) (Y : Hp D A H0 H locs (WC g ad σ ++ WM g am τ)) (hR : Rl σ τ)
    (kk : ∀ (σ' τ' : St) (H1 : Heap) (locs1 : List Loc), Rl σ' τ' → Hp D A H0 H1 locs1 (WC g ad σ' ++ WM g am τ') → W p l e room_1 s m args below meth c H1 locs1 36 790 Q (F0 m 1120 ls [])) : W p l e room_1 s m args below meth c H locs 36 790 Q (F0 m 776 ls []) := by
  refine lv_aload_n X.1 X.2.1 dL_law_776 rfl (lv_at hl 1 rfl) ?_
  refine lA X hV Y hl (j := 1) (by decide) hI.1 dL_law_777 dL_law_778 dL_law_779 dL_law_780 dL_law_781 ?_
  refine lA X hV Y hl (j := 2) (by decide) hI.2.1 dL_law_782 dL_law_783 dL_law_784 dL_law_785 dL_law_786 ?_
  refine lA X hV Y hl (j := 3) (by decide) hI.2.2.1 dL_law_787 dL_law_788 dL_law_789 dL_law_790 dL_law_791 ?_
  obtain ⟨r, σ', τ', e1, e2, hR2⟩ := q_sheet hR (xs (x + 1).toNatClampNeg) (xs (x + 2).toNatClampNeg) (xs (x + 3).toNatClampNeg)
  refine lVi X (hml.trans hl.1.symm) Y (As := [.int (xs (x + 1).toNatClampNeg), .int (xs (x + 2).toNatClampNeg), .int (xs (x + 3).toNatClampNeg)]) (c_fX3_sheet l D g ad σ _ (xs (x + 1).toNatClampNeg) (xs (x + 2).toNatClampNeg) (xs (x + 3).toNatClampNeg) e1) (q0 := 0) (ci := 2) rfl rfl (gV tw_380 tw_381 tw_382 tw_33 tw_383) rfl fd_X3_sheet ⟨(Nat.le_of_ble_eq_true rfl), (Nat.le_of_ble_eq_true rfl)⟩ ⟨(Nat.le_of_ble_eq_true rfl), (Nat.le_of_ble_eq_true rfl)⟩ (rest := []) rfl (Nat.le_of_ble_eq_true rfl) dL_law_792 (fun H locs Y => ?_)
  refine lv_aload_n X.1 X.2.1 dL_law_795 rfl (lv_at hl 2 rfl) ?_
  refine lA X hV Y hl (j := 1) (by decide) hI.1 dL_law_796 dL_law_797 dL_law_798 dL_law_799 dL_law_800 ?_
  refine lA X hV Y hl (j := 2) (by decide) hI.2.1 dL_law_801 dL_law_802 dL_law_803 dL_law_804 dL_law_805 ?_
  refine lA X hV Y hl (j := 3) (by decide) hI.2.2.1 dL_law_806 dL_law_807 dL_law_808 dL_law_809 dL_law_810 ?_
  refine lVi X (hml.trans hl.1.symm) Y.comm (As := [.int (xs (x + 1).toNatClampNeg), .int (xs (x + 2).toNatClampNeg), .int (xs (x + 3).toNatClampNeg)]) (c_fX4_sheet l D g am τ _ (xs (x + 1).toNatClampNeg) (xs (x + 2).toNatClampNeg) (xs (x + 3).toNatClampNeg) e2) (q0 := 0) (ci := 3) rfl rfl (gV tw_732 tw_733 tw_734 tw_36 tw_735) rfl fd_X4_sheet ⟨(Nat.le_of_ble_eq_true rfl), (Nat.le_of_ble_eq_true rfl)⟩ ⟨(Nat.le_of_ble_eq_true rfl), (Nat.le_of_ble_eq_true rfl)⟩ (rest := [.int r]) rfl (Nat.le_of_ble_eq_true rfl) dL_law_811 (fun H locs Y => ?_)
  exact lv_icmp_eq (tgt := 1120) X.1 X.2.1 dL_law_814 (by decide) (fun _ => kk σ' τ' _ _ hR2 Y.comm) (fun h => absurd rfl h)
set_option maxHeartbeats 1000000 in
theorem lc_20 (X : Cx p s m c args cL_law RL cwL D g) (hml : c.maxLocals = 4) (hV : va_X b L xs s H0 ∧ b < H0.size ∧ ¬ A b) (hl : lv_has ls 4 [(0, .ref b), (1, .ref (ad 0)), (2, .ref (am 0)), (3, .int x)]) (hI : vp_in (x + 1) L ∧ vp_in (x + 2) L ∧ vp_in (x + 3) L ∧ vp_in (x + 4) L ∧ vp_in (x + 5) L) (Y : Hp D A H0 H locs (WC g ad σ ++ WM g am τ)) (hR : Rl σ τ)
    (kk : ∀ (σ' τ' : St) (H1 : Heap) (locs1 : List Loc), Rl σ' τ' → Hp D A H0 H1 locs1 (WC g ad σ' ++ WM g am τ') → W p l e room_1 s m args below meth c H1 locs1 36 790 Q (F0 m 1120 ls [])) : W p l e room_1 s m args below meth c H locs 36 790 Q (F0 m 819 ls []) := by
  refine lv_aload_n X.1 X.2.1 dL_law_819 rfl (lv_at hl 1 rfl) ?_
  refine lA X hV Y hl (j := 1) (by decide) hI.1 dL_law_820 dL_law_821 dL_law_822 dL_law_823 dL_law_824 ?_
  obtain ⟨r, σ', τ', e1, e2, hR2⟩ := q_lose hR (xs (x + 1).toNatClampNeg)
  refine lVi X (hml.trans hl.1.symm) Y (As := [.int (xs (x + 1).toNatClampNeg)]) (c_fX3_lose l D g ad σ (xs (x + 1).toNatClampNeg) e1) (q0 := 0) (ci := 2) rfl rfl (gV tw_388 tw_389 tw_390 tw_33 tw_391) rfl fd_X3_lose ⟨(Nat.le_of_ble_eq_true rfl), (Nat.le_of_ble_eq_true rfl)⟩ ⟨(Nat.le_of_ble_eq_true rfl), (Nat.le_of_ble_eq_true rfl)⟩ (rest := []) rfl (Nat.le_of_ble_eq_true rfl) dL_law_825 (fun H locs Y => ?_)
  refine lv_aload_n X.1 X.2.1 dL_law_828 rfl (lv_at hl 2 rfl) ?_
  refine lA X hV Y hl (j := 1) (by decide) hI.1 dL_law_829 dL_law_830 dL_law_831 dL_law_832 dL_law_833 ?_
  refine lVi X (hml.trans hl.1.symm) Y.comm (As := [.int (xs (x + 1).toNatClampNeg)]) (c_fX4_lose l D g am τ (xs (x + 1).toNatClampNeg) e2) (q0 := 0) (ci := 3) rfl rfl (gV tw_736 tw_737 tw_738 tw_36 tw_739) rfl fd_X4_lose ⟨(Nat.le_of_ble_eq_true rfl), (Nat.le_of_ble_eq_true rfl)⟩ ⟨(Nat.le_of_ble_eq_true rfl), (Nat.le_of_ble_eq_true rfl)⟩ (rest := [.int r]) rfl (Nat.le_of_ble_eq_true rfl) dL_law_834 (fun H locs Y => ?_)
  exact lv_icmp_eq (tgt := 1120) X.1 X.2.1 dL_law_837 (by decide) (fun _ => kk σ' τ' _ _ hR2 Y.comm) (fun h => absurd rfl h)
set_option maxHeartbeats 1000000 in
theorem lc_21 (X : Cx p s m c args cL_law RL cwL D g) (hml : c.maxLocals = 4) (hV : va_X b L xs s H0 ∧ b < H0.size ∧ ¬ A b) (hl : lv_has ls 4 [(0, .ref b), (1, .ref (ad 0)), (2, .ref (am 0)), (3, .int x)]) (hI : vp_in (x + 1) L ∧ vp_in (x + 2) L ∧ vp_in (x + 3) L ∧ vp_in (x + 4) L ∧ vp_in (x + 5) L) (Y : Hp D A H0 H locs (WC g ad σ ++ WM g am τ)) (hR : Rl σ τ)
    (kk : ∀ (σ' τ' : St) (H1 : Heap) (locs1 : List Loc), Rl σ' τ' → Hp D A H0 H1 locs1 (WC g ad σ' ++ WM g am τ') → W p l e room_1 s m args below meth c H1 locs1 36 790 Q (F0 m 1120 ls [])) : W p l e room_1 s m args below meth c H locs 36 790 Q (F0 m 842 ls []) := by
  refine lv_aload_n X.1 X.2.1 dL_law_842 rfl (lv_at hl 1 rfl) ?_
  refine lA X hV Y hl (j := 1) (by decide) hI.1 dL_law_843 dL_law_844 dL_law_845 dL_law_846 dL_law_847 ?_
  refine lA X hV Y hl (j := 2) (by decide) hI.2.1 dL_law_848 dL_law_849 dL_law_850 dL_law_851 dL_law_852 ?_
  refine lA X hV Y hl (j := 3) (by decide) hI.2.2.1 dL_law_853 dL_law_854 dL_law_855 dL_law_856 dL_law_857 ?_
  obtain ⟨r, σ', τ', e1, e2, hR2⟩ := q_put hR (xs (x + 1).toNatClampNeg) (xs (x + 2).toNatClampNeg) (xs (x + 3).toNatClampNeg)
  refine lVi X (hml.trans hl.1.symm) Y (As := [.int (xs (x + 1).toNatClampNeg), .int (xs (x + 2).toNatClampNeg), .int (xs (x + 3).toNatClampNeg)]) (c_fX3_put l D g ad σ (xs (x + 1).toNatClampNeg) (xs (x + 2).toNatClampNeg) (xs (x + 3).toNatClampNeg) e1) (q0 := 0) (ci := 2) rfl rfl (gV tw_392 tw_393 tw_394 tw_33 tw_395) rfl fd_X3_put ⟨(Nat.le_of_ble_eq_true rfl), (Nat.le_of_ble_eq_true rfl)⟩ ⟨(Nat.le_of_ble_eq_true rfl), (Nat.le_of_ble_eq_true rfl)⟩ (rest := []) rfl (Nat.le_of_ble_eq_true rfl) dL_law_858 (fun H locs Y => ?_)
  refine lv_aload_n X.1 X.2.1 dL_law_861 rfl (lv_at hl 2 rfl) ?_
  refine lA X hV Y hl (j := 1) (by decide) hI.1 dL_law_862 dL_law_863 dL_law_864 dL_law_865 dL_law_866 ?_
  refine lA X hV Y hl (j := 2) (by decide) hI.2.1 dL_law_867 dL_law_868 dL_law_869 dL_law_870 dL_law_871 ?_
  refine lA X hV Y hl (j := 3) (by decide) hI.2.2.1 dL_law_872 dL_law_873 dL_law_874 dL_law_875 dL_law_876 ?_
  refine lVi X (hml.trans hl.1.symm) Y.comm (As := [.int (xs (x + 1).toNatClampNeg), .int (xs (x + 2).toNatClampNeg), .int (xs (x + 3).toNatClampNeg)]) (c_fX4_put l D g am τ (xs (x + 1).toNatClampNeg) (xs (x + 2).toNatClampNeg) (xs (x + 3).toNatClampNeg) e2) (q0 := 0) (ci := 3) rfl rfl (gV tw_740 tw_741 tw_742 tw_36 tw_743) rfl fd_X4_put ⟨(Nat.le_of_ble_eq_true rfl), (Nat.le_of_ble_eq_true rfl)⟩ ⟨(Nat.le_of_ble_eq_true rfl), (Nat.le_of_ble_eq_true rfl)⟩ (rest := [.int r]) rfl (Nat.le_of_ble_eq_true rfl) dL_law_877 (fun H locs Y => ?_)
  exact lv_icmp_eq (tgt := 1120) X.1 X.2.1 dL_law_880 (by decide) (fun _ => kk σ' τ' _ _ hR2 Y.comm) (fun h => absurd rfl h)
set_option maxHeartbeats 1000000 in
theorem lc_22 (X : Cx p s m c args cL_law RL cwL D g) (hml : c.maxLocals = 4) (hV : va_X b L xs s H0 ∧ b < H0.size ∧ ¬ A b) (hl : lv_has ls 4 [(0, .ref b), (1, .ref (ad 0)), (2, .ref (am 0)), (3, .int x)]) (hI : vp_in (x + 1) L ∧ vp_in (x + 2) L ∧ vp_in (x + 3) L ∧ vp_in (x + 4) L ∧ vp_in (x + 5) L) (Y : Hp D A H0 H locs (WC g ad σ ++ WM g am τ)) (hR : Rl σ τ)
    (kk : ∀ (σ' τ' : St) (H1 : Heap) (locs1 : List Loc), Rl σ' τ' → Hp D A H0 H1 locs1 (WC g ad σ' ++ WM g am τ') → W p l e room_1 s m args below meth c H1 locs1 36 790 Q (F0 m 1120 ls [])) : W p l e room_1 s m args below meth c H locs 36 790 Q (F0 m 885 ls []) := by
  refine lv_aload_n X.1 X.2.1 dL_law_885 rfl (lv_at hl 1 rfl) ?_
  refine lA X hV Y hl (j := 1) (by decide) hI.1 dL_law_886 dL_law_887 dL_law_888 dL_law_889 dL_law_890 ?_
  refine lA X hV Y hl (j := 2) (by decide) hI.2.1 dL_law_891 dL_law_892 dL_law_893 dL_law_894 dL_law_895 ?_
  refine lA X hV Y hl (j := 3) (by decide) hI.2.2.1 dL_law_896 dL_law_897 dL_law_898 dL_law_899 dL_law_900 ?_
  obtain ⟨r, σ', τ', e1, e2, hR2⟩ := q_cell hR (xs (x + 1).toNatClampNeg) (xs (x + 2).toNatClampNeg) (xs (x + 3).toNatClampNeg)
  refine lVl X (hml.trans hl.1.symm) Y (As := [.int (xs (x + 1).toNatClampNeg), .int (xs (x + 2).toNatClampNeg), .int (xs (x + 3).toNatClampNeg)]) (c_fX3_cell l D g ad σ (xs (x + 1).toNatClampNeg) (xs (x + 2).toNatClampNeg) (xs (x + 3).toNatClampNeg) e1) (q0 := 0) (ci := 2) rfl rfl (gV tw_404 tw_405 tw_406 tw_33 tw_407) rfl fd_X3_cell ⟨(Nat.le_of_ble_eq_true rfl), (Nat.le_of_ble_eq_true rfl)⟩ ⟨(Nat.le_of_ble_eq_true rfl), (Nat.le_of_ble_eq_true rfl)⟩ (rest := []) rfl (Nat.le_of_ble_eq_true rfl) dL_law_901 (fun H locs Y => ?_)
  refine lv_aload_n X.1 X.2.1 dL_law_904 rfl (lv_at hl 2 rfl) ?_
  refine lA X hV Y hl (j := 1) (by decide) hI.1 dL_law_905 dL_law_906 dL_law_907 dL_law_908 dL_law_909 ?_
  refine lA X hV Y hl (j := 2) (by decide) hI.2.1 dL_law_910 dL_law_911 dL_law_912 dL_law_913 dL_law_914 ?_
  refine lA X hV Y hl (j := 3) (by decide) hI.2.2.1 dL_law_915 dL_law_916 dL_law_917 dL_law_918 dL_law_919 ?_
  refine lVl X (hml.trans hl.1.symm) Y.comm (As := [.int (xs (x + 1).toNatClampNeg), .int (xs (x + 2).toNatClampNeg), .int (xs (x + 3).toNatClampNeg)]) (c_fX4_cell l D g am τ (xs (x + 1).toNatClampNeg) (xs (x + 2).toNatClampNeg) (xs (x + 3).toNatClampNeg) e2) (q0 := 0) (ci := 3) rfl rfl (gV tw_744 tw_745 tw_746 tw_36 tw_747) rfl fd_X4_cell ⟨(Nat.le_of_ble_eq_true rfl), (Nat.le_of_ble_eq_true rfl)⟩ ⟨(Nat.le_of_ble_eq_true rfl), (Nat.le_of_ble_eq_true rfl)⟩ (rest := [.long r]) rfl (Nat.le_of_ble_eq_true rfl) dL_law_920 (fun H locs Y => ?_)
  refine W.lcmp X.1 X.2.1 dL_law_923 ?_
  rw [lg_self]
  exact lv_if_eq (tgt := 1120) X.1 X.2.1 dL_law_924 (by decide) (fun _ => kk σ' τ' _ _ hR2 Y.comm) (fun h => absurd rfl h)
set_option maxHeartbeats 1000000 in
theorem lc_23 (X : Cx p s m c args cL_law RL cwL D g) (hml : c.maxLocals = 4) (hV : va_X b L xs s H0 ∧ b < H0.size ∧ ¬ A b) (hl : lv_has ls 4 [(0, .ref b), (1, .ref (ad 0)), (2, .ref (am 0)), (3, .int x)]) (hI : vp_in (x + 1) L ∧ vp_in (x + 2) L ∧ vp_in (x + 3) L ∧ vp_in (x + 4) L ∧ vp_in (x + 5) L) (Y : Hp D A H0 H locs (WC g ad σ ++ WM g am τ)) (hR : Rl σ τ)
    (kk : ∀ (σ' τ' : St) (H1 : Heap) (locs1 : List Loc), Rl σ' τ' → Hp D A H0 H1 locs1 (WC g ad σ' ++ WM g am τ') → W p l e room_1 s m args below meth c H1 locs1 36 790 Q (F0 m 1120 ls [])) : W p l e room_1 s m args below meth c H locs 36 790 Q (F0 m 929 ls []) := by
  refine lv_aload_n X.1 X.2.1 dL_law_929 rfl (lv_at hl 1 rfl) ?_
  refine lA X hV Y hl (j := 1) (by decide) hI.1 dL_law_930 dL_law_931 dL_law_932 dL_law_933 dL_law_934 ?_
  refine lA X hV Y hl (j := 2) (by decide) hI.2.1 dL_law_935 dL_law_936 dL_law_937 dL_law_938 dL_law_939 ?_
  refine lA X hV Y hl (j := 3) (by decide) hI.2.2.1 dL_law_940 dL_law_941 dL_law_942 dL_law_943 dL_law_944 ?_
  refine lA X hV Y hl (j := 4) (by decide) hI.2.2.2.1 dL_law_945 dL_law_946 dL_law_947 dL_law_948 dL_law_949 ?_
  refine lA X hV Y hl (j := 5) (by decide) hI.2.2.2.2 dL_law_950 dL_law_951 dL_law_952 dL_law_953 dL_law_954 ?_
  obtain ⟨r, σ', τ', e1, e2, hR2⟩ := q_copy hR (xs (x + 1).toNatClampNeg) (xs (x + 2).toNatClampNeg) (xs (x + 3).toNatClampNeg) (xs (x + 4).toNatClampNeg) (xs (x + 5).toNatClampNeg)
  refine lVi X (hml.trans hl.1.symm) Y (As := [.int (xs (x + 1).toNatClampNeg), .int (xs (x + 2).toNatClampNeg), .int (xs (x + 3).toNatClampNeg), .int (xs (x + 4).toNatClampNeg), .int (xs (x + 5).toNatClampNeg)]) (c_fX3_copy l D g ad σ (xs (x + 1).toNatClampNeg) (xs (x + 2).toNatClampNeg) (xs (x + 3).toNatClampNeg) (xs (x + 4).toNatClampNeg) (xs (x + 5).toNatClampNeg) e1) (q0 := 0) (ci := 2) rfl rfl (gV tw_408 tw_409 tw_410 tw_33 tw_411) rfl fd_X3_copy ⟨(Nat.le_of_ble_eq_true rfl), (Nat.le_of_ble_eq_true rfl)⟩ ⟨(Nat.le_of_ble_eq_true rfl), (Nat.le_of_ble_eq_true rfl)⟩ (rest := []) rfl (Nat.le_of_ble_eq_true rfl) dL_law_955 (fun H locs Y => ?_)
  refine lv_aload_n X.1 X.2.1 dL_law_958 rfl (lv_at hl 2 rfl) ?_
  refine lA X hV Y hl (j := 1) (by decide) hI.1 dL_law_959 dL_law_960 dL_law_961 dL_law_962 dL_law_963 ?_
  refine lA X hV Y hl (j := 2) (by decide) hI.2.1 dL_law_964 dL_law_965 dL_law_966 dL_law_967 dL_law_968 ?_
  refine lA X hV Y hl (j := 3) (by decide) hI.2.2.1 dL_law_969 dL_law_970 dL_law_971 dL_law_972 dL_law_973 ?_
  refine lA X hV Y hl (j := 4) (by decide) hI.2.2.2.1 dL_law_974 dL_law_975 dL_law_976 dL_law_977 dL_law_978 ?_
  refine lA X hV Y hl (j := 5) (by decide) hI.2.2.2.2 dL_law_979 dL_law_980 dL_law_981 dL_law_982 dL_law_983 ?_
  refine lVi X (hml.trans hl.1.symm) Y.comm (As := [.int (xs (x + 1).toNatClampNeg), .int (xs (x + 2).toNatClampNeg), .int (xs (x + 3).toNatClampNeg), .int (xs (x + 4).toNatClampNeg), .int (xs (x + 5).toNatClampNeg)]) (c_fX4_copy l D g am τ _ (xs (x + 1).toNatClampNeg) (xs (x + 2).toNatClampNeg) (xs (x + 3).toNatClampNeg) (xs (x + 4).toNatClampNeg) (xs (x + 5).toNatClampNeg) e2) (q0 := 0) (ci := 3) rfl rfl (gV tw_752 tw_753 tw_754 tw_36 tw_755) rfl fd_X4_copy ⟨(Nat.le_of_ble_eq_true rfl), (Nat.le_of_ble_eq_true rfl)⟩ ⟨(Nat.le_of_ble_eq_true rfl), (Nat.le_of_ble_eq_true rfl)⟩ (rest := [.int r]) rfl (Nat.le_of_ble_eq_true rfl) dL_law_984 (fun H locs Y => ?_)
  exact lv_icmp_eq (tgt := 1120) X.1 X.2.1 dL_law_987 (by decide) (fun _ => kk σ' τ' _ _ hR2 Y.comm) (fun h => absurd rfl h)
set_option maxHeartbeats 1000000 in
theorem lc_24 (X : Cx p s m c args cL_law RL cwL D g) (hml : c.maxLocals = 4) (hV : va_X b L xs s H0 ∧ b < H0.size ∧ ¬ A b) (hl : lv_has ls 4 [(0, .ref b), (1, .ref (ad 0)), (2, .ref (am 0)), (3, .int x)]) (hI : vp_in (x + 1) L ∧ vp_in (x + 2) L ∧ vp_in (x + 3) L ∧ vp_in (x + 4) L ∧ vp_in (x + 5) L) (Y : Hp D A H0 H locs (WC g ad σ ++ WM g am τ)) (hR : Rl σ τ)
    (kk : ∀ (σ' τ' : St) (H1 : Heap) (locs1 : List Loc), Rl σ' τ' → Hp D A H0 H1 locs1 (WC g ad σ' ++ WM g am τ') → W p l e room_1 s m args below meth c H1 locs1 36 790 Q (F0 m 1120 ls [])) : W p l e room_1 s m args below meth c H locs 36 790 Q (F0 m 992 ls []) := by
  refine lv_aload_n X.1 X.2.1 dL_law_992 rfl (lv_at hl 1 rfl) ?_
  refine lA X hV Y hl (j := 1) (by decide) hI.1 dL_law_993 dL_law_994 dL_law_995 dL_law_996 dL_law_997 ?_
  obtain ⟨r, σ', τ', e1, e2, hR2⟩ := q_tell hR (xs (x + 1).toNatClampNeg)
  refine lVi X (hml.trans hl.1.symm) Y (As := [.int (xs (x + 1).toNatClampNeg)]) (c_fX3_tell l D g ad σ _ (xs (x + 1).toNatClampNeg) e1) (q0 := 0) (ci := 2) rfl rfl (gV tw_415 tw_416 tw_417 tw_33 tw_418) rfl fd_X3_tell ⟨(Nat.le_of_ble_eq_true rfl), (Nat.le_of_ble_eq_true rfl)⟩ ⟨(Nat.le_of_ble_eq_true rfl), (Nat.le_of_ble_eq_true rfl)⟩ (rest := []) rfl (Nat.le_of_ble_eq_true rfl) dL_law_998 (fun H locs Y => ?_)
  refine lv_aload_n X.1 X.2.1 dL_law_1001 rfl (lv_at hl 2 rfl) ?_
  refine lA X hV Y hl (j := 1) (by decide) hI.1 dL_law_1002 dL_law_1003 dL_law_1004 dL_law_1005 dL_law_1006 ?_
  refine lVi X (hml.trans hl.1.symm) Y.comm (As := [.int (xs (x + 1).toNatClampNeg)]) (c_fX4_tell l D g am τ _ (xs (x + 1).toNatClampNeg) e2) (q0 := 0) (ci := 3) rfl rfl (gV tw_756 tw_757 tw_758 tw_36 tw_759) rfl fd_X4_tell ⟨(Nat.le_of_ble_eq_true rfl), (Nat.le_of_ble_eq_true rfl)⟩ ⟨(Nat.le_of_ble_eq_true rfl), (Nat.le_of_ble_eq_true rfl)⟩ (rest := [.int r]) rfl (Nat.le_of_ble_eq_true rfl) dL_law_1007 (fun H locs Y => ?_)
  exact lv_icmp_eq (tgt := 1120) X.1 X.2.1 dL_law_1010 (by decide) (fun _ => kk σ' τ' _ _ hR2 Y.comm) (fun h => absurd rfl h)
set_option maxHeartbeats 1000000 in
theorem lc_25 (X : Cx p s m c args cL_law RL cwL D g) (hml : c.maxLocals = 4) (hV : va_X b L xs s H0 ∧ b < H0.size ∧ ¬ A b) (hl : lv_has ls 4 [(0, .ref b), (1, .ref (ad 0)), (2, .ref (am 0)), (3, .int x)]) (hI : vp_in (x + 1) L ∧ vp_in (x + 2) L ∧ vp_in (x + 3) L ∧ vp_in (x + 4) L ∧ vp_in (x + 5) L) (Y : Hp D A H0 H locs (WC g ad σ ++ WM g am τ)) (hR : Rl σ τ)
    (kk : ∀ (σ' τ' : St) (H1 : Heap) (locs1 : List Loc), Rl σ' τ' → Hp D A H0 H1 locs1 (WC g ad σ' ++ WM g am τ') → W p l e room_1 s m args below meth c H1 locs1 36 790 Q (F0 m 1120 ls [])) : W p l e room_1 s m args below meth c H locs 36 790 Q (F0 m 1015 ls []) := by
  refine lv_aload_n X.1 X.2.1 dL_law_1015 rfl (lv_at hl 1 rfl) ?_
  refine lA X hV Y hl (j := 1) (by decide) hI.1 dL_law_1016 dL_law_1017 dL_law_1018 dL_law_1019 dL_law_1020 ?_
  obtain ⟨r, σ', τ', e1, e2, hR2⟩ := q_hail hR (xs (x + 1).toNatClampNeg)
  refine lVi X (hml.trans hl.1.symm) Y (As := [.int (xs (x + 1).toNatClampNeg)]) (c_fX3_hail l D g ad σ (xs (x + 1).toNatClampNeg) e1) (q0 := 0) (ci := 2) rfl rfl (gV tw_435 tw_436 tw_437 tw_33 tw_438) rfl fd_X3_hail ⟨(Nat.le_of_ble_eq_true rfl), (Nat.le_of_ble_eq_true rfl)⟩ ⟨(Nat.le_of_ble_eq_true rfl), (Nat.le_of_ble_eq_true rfl)⟩ (rest := []) rfl (Nat.le_of_ble_eq_true rfl) dL_law_1021 (fun H locs Y => ?_)
  refine lv_aload_n X.1 X.2.1 dL_law_1024 rfl (lv_at hl 2 rfl) ?_
  refine lA X hV Y hl (j := 1) (by decide) hI.1 dL_law_1025 dL_law_1026 dL_law_1027 dL_law_1028 dL_law_1029 ?_
  refine lVi X (hml.trans hl.1.symm) Y.comm (As := [.int (xs (x + 1).toNatClampNeg)]) (c_fX4_hail l D g am τ (xs (x + 1).toNatClampNeg) e2) (q0 := 0) (ci := 3) rfl rfl (gV tw_764 tw_765 tw_766 tw_36 tw_767) rfl fd_X4_hail ⟨(Nat.le_of_ble_eq_true rfl), (Nat.le_of_ble_eq_true rfl)⟩ ⟨(Nat.le_of_ble_eq_true rfl), (Nat.le_of_ble_eq_true rfl)⟩ (rest := [.int r]) rfl (Nat.le_of_ble_eq_true rfl) dL_law_1030 (fun H locs Y => ?_)
  exact lv_icmp_eq (tgt := 1120) X.1 X.2.1 dL_law_1033 (by decide) (fun _ => kk σ' τ' _ _ hR2 Y.comm) (fun h => absurd rfl h)
set_option maxHeartbeats 1000000 in
theorem lc_26 (X : Cx p s m c args cL_law RL cwL D g) (hml : c.maxLocals = 4) (hV : va_X b L xs s H0 ∧ b < H0.size ∧ ¬ A b) (hl : lv_has ls 4 [(0, .ref b), (1, .ref (ad 0)), (2, .ref (am 0)), (3, .int x)]) (hI : vp_in (x + 1) L ∧ vp_in (x + 2) L ∧ vp_in (x + 3) L ∧ vp_in (x + 4) L ∧ vp_in (x + 5) L) (Y : Hp D A H0 H locs (WC g ad σ ++ WM g am τ)) (hR : Rl σ τ)
    (kk : ∀ (σ' τ' : St) (H1 : Heap) (locs1 : List Loc), Rl σ' τ' → Hp D A H0 H1 locs1 (WC g ad σ' ++ WM g am τ') → W p l e room_1 s m args below meth c H1 locs1 36 790 Q (F0 m 1120 ls [])) : W p l e room_1 s m args below meth c H locs 36 790 Q (F0 m 1038 ls []) := by
  refine lv_aload_n X.1 X.2.1 dL_law_1038 rfl (lv_at hl 1 rfl) ?_
  refine lA X hV Y hl (j := 1) (by decide) hI.1 dL_law_1039 dL_law_1040 dL_law_1041 dL_law_1042 dL_law_1043 ?_
  refine lA X hV Y hl (j := 2) (by decide) hI.2.1 dL_law_1044 dL_law_1045 dL_law_1046 dL_law_1047 dL_law_1048 ?_
  obtain ⟨r, σ', τ', e1, e2, hR2⟩ := q_as hR (xs (x + 1).toNatClampNeg) (xs (x + 2).toNatClampNeg)
  refine lVi X (hml.trans hl.1.symm) Y (As := [.int (xs (x + 1).toNatClampNeg), .int (xs (x + 2).toNatClampNeg)]) (c_fX3_as l D g ad σ (xs (x + 1).toNatClampNeg) (xs (x + 2).toNatClampNeg) e1) (q0 := 0) (ci := 2) rfl rfl (gV tw_447 tw_448 tw_449 tw_33 tw_450) rfl fd_X3_as ⟨(Nat.le_of_ble_eq_true rfl), (Nat.le_of_ble_eq_true rfl)⟩ ⟨(Nat.le_of_ble_eq_true rfl), (Nat.le_of_ble_eq_true rfl)⟩ (rest := []) rfl (Nat.le_of_ble_eq_true rfl) dL_law_1049 (fun H locs Y => ?_)
  refine lv_aload_n X.1 X.2.1 dL_law_1052 rfl (lv_at hl 2 rfl) ?_
  refine lA X hV Y hl (j := 1) (by decide) hI.1 dL_law_1053 dL_law_1054 dL_law_1055 dL_law_1056 dL_law_1057 ?_
  refine lA X hV Y hl (j := 2) (by decide) hI.2.1 dL_law_1058 dL_law_1059 dL_law_1060 dL_law_1061 dL_law_1062 ?_
  refine lVi X (hml.trans hl.1.symm) Y.comm (As := [.int (xs (x + 1).toNatClampNeg), .int (xs (x + 2).toNatClampNeg)]) (c_fX4_as l D g am τ (xs (x + 1).toNatClampNeg) (xs (x + 2).toNatClampNeg) e2) (q0 := 0) (ci := 3) rfl rfl (gV tw_768 tw_769 tw_770 tw_36 tw_771) rfl fd_X4_as ⟨(Nat.le_of_ble_eq_true rfl), (Nat.le_of_ble_eq_true rfl)⟩ ⟨(Nat.le_of_ble_eq_true rfl), (Nat.le_of_ble_eq_true rfl)⟩ (rest := [.int r]) rfl (Nat.le_of_ble_eq_true rfl) dL_law_1063 (fun H locs Y => ?_)
  exact lv_icmp_eq (tgt := 1120) X.1 X.2.1 dL_law_1066 (by decide) (fun _ => kk σ' τ' _ _ hR2 Y.comm) (fun h => absurd rfl h)
set_option maxHeartbeats 1000000 in
theorem lc_27 (X : Cx p s m c args cL_law RL cwL D g) (hml : c.maxLocals = 4) (hV : va_X b L xs s H0 ∧ b < H0.size ∧ ¬ A b) (hl : lv_has ls 4 [(0, .ref b), (1, .ref (ad 0)), (2, .ref (am 0)), (3, .int x)]) (hI : vp_in (x + 1) L ∧ vp_in (x + 2) L ∧ vp_in (x + 3) L ∧ vp_in (x + 4) L ∧ vp_in (x + 5) L) (Y : Hp D A H0 H locs (WC g ad σ ++ WM g am τ)) (hR : Rl σ τ)
    (kk : ∀ (σ' τ' : St) (H1 : Heap) (locs1 : List Loc), Rl σ' τ' → Hp D A H0 H1 locs1 (WC g ad σ' ++ WM g am τ') → W p l e room_1 s m args below meth c H1 locs1 36 790 Q (F0 m 1120 ls [])) : W p l e room_1 s m args below meth c H locs 36 790 Q (F0 m 1071 ls []) := by
  refine lv_aload_n X.1 X.2.1 dL_law_1071 rfl (lv_at hl 1 rfl) ?_
  obtain ⟨r, e1, e2⟩ := q_trace hR 
  refine lVi X (hml.trans hl.1.symm) Y (As := []) (c_fX3_trace l D g ad σ  e1) (q0 := 0) (ci := 2) rfl rfl (gV tw_451 tw_452 tw_453 tw_33 tw_454) rfl fd_X3_trace ⟨(Nat.le_of_ble_eq_true rfl), (Nat.le_of_ble_eq_true rfl)⟩ ⟨(Nat.le_of_ble_eq_true rfl), (Nat.le_of_ble_eq_true rfl)⟩ (rest := []) rfl (Nat.le_of_ble_eq_true rfl) dL_law_1072 (fun H locs Y => ?_)
  refine lv_aload_n X.1 X.2.1 dL_law_1075 rfl (lv_at hl 2 rfl) ?_
  refine lVi X (hml.trans hl.1.symm) Y.comm (As := []) (c_fX4_trace l D g am τ  e2) (q0 := 0) (ci := 3) rfl rfl (gV tw_772 tw_773 tw_774 tw_36 tw_775) rfl fd_X4_trace ⟨(Nat.le_of_ble_eq_true rfl), (Nat.le_of_ble_eq_true rfl)⟩ ⟨(Nat.le_of_ble_eq_true rfl), (Nat.le_of_ble_eq_true rfl)⟩ (rest := [.int r]) rfl (Nat.le_of_ble_eq_true rfl) dL_law_1076 (fun H locs Y => ?_)
  exact lv_icmp_eq (tgt := 1120) X.1 X.2.1 dL_law_1079 (by decide) (fun _ => kk σ τ _ _ hR Y.comm) (fun h => absurd rfl h)
set_option maxHeartbeats 1000000 in
theorem lc_28 (X : Cx p s m c args cL_law RL cwL D g) (hml : c.maxLocals = 4) (hV : va_X b L xs s H0 ∧ b < H0.size ∧ ¬ A b) (hl : lv_has ls 4 [(0, .ref b), (1, .ref (ad 0)), (2, .ref (am 0)), (3, .int x)]) (hI : vp_in (x + 1) L ∧ vp_in (x + 2) L ∧ vp_in (x + 3) L ∧ vp_in (x + 4) L ∧ vp_in (x + 5) L) (Y : Hp D A H0 H locs (WC g ad σ ++ WM g am τ)) (hR : Rl σ τ)
    (kk : ∀ (σ' τ' : St) (H1 : Heap) (locs1 : List Loc), Rl σ' τ' → Hp D A H0 H1 locs1 (WC g ad σ' ++ WM g am τ') → W p l e room_1 s m args below meth c H1 locs1 36 790 Q (F0 m 1120 ls [])) : W p l e room_1 s m args below meth c H locs 36 790 Q (F0 m 1084 ls []) := by
  refine lv_aload_n X.1 X.2.1 dL_law_1084 rfl (lv_at hl 1 rfl) ?_
  obtain ⟨r, e1, e2⟩ := q_fault hR 
  refine lVi X (hml.trans hl.1.symm) Y (As := []) (c_fX3_fault l D g ad σ  e1) (q0 := 0) (ci := 2) rfl rfl (gV tw_455 tw_456 tw_457 tw_33 tw_458) rfl fd_X3_fault ⟨(Nat.le_of_ble_eq_true rfl), (Nat.le_of_ble_eq_true rfl)⟩ ⟨(Nat.le_of_ble_eq_true rfl), (Nat.le_of_ble_eq_true rfl)⟩ (rest := []) rfl (Nat.le_of_ble_eq_true rfl) dL_law_1085 (fun H locs Y => ?_)
  refine lv_aload_n X.1 X.2.1 dL_law_1088 rfl (lv_at hl 2 rfl) ?_
  refine lVi X (hml.trans hl.1.symm) Y.comm (As := []) (c_fX4_fault l D g am τ  e2) (q0 := 0) (ci := 3) rfl rfl (gV tw_776 tw_777 tw_778 tw_36 tw_779) rfl fd_X4_fault ⟨(Nat.le_of_ble_eq_true rfl), (Nat.le_of_ble_eq_true rfl)⟩ ⟨(Nat.le_of_ble_eq_true rfl), (Nat.le_of_ble_eq_true rfl)⟩ (rest := [.int r]) rfl (Nat.le_of_ble_eq_true rfl) dL_law_1089 (fun H locs Y => ?_)
  exact lv_icmp_eq (tgt := 1120) X.1 X.2.1 dL_law_1092 (by decide) (fun _ => kk σ τ _ _ hR Y.comm) (fun h => absurd rfl h)
set_option maxHeartbeats 1000000 in
theorem lc_29 (X : Cx p s m c args cL_law RL cwL D g) (hml : c.maxLocals = 4) (hV : va_X b L xs s H0 ∧ b < H0.size ∧ ¬ A b) (hl : lv_has ls 4 [(0, .ref b), (1, .ref (ad 0)), (2, .ref (am 0)), (3, .int x)]) (hI : vp_in (x + 1) L ∧ vp_in (x + 2) L ∧ vp_in (x + 3) L ∧ vp_in (x + 4) L ∧ vp_in (x + 5) L) (Y : Hp D A H0 H locs (WC g ad σ ++ WM g am τ)) (hR : Rl σ τ)
    (kk : ∀ (σ' τ' : St) (H1 : Heap) (locs1 : List Loc), Rl σ' τ' → Hp D A H0 H1 locs1 (WC g ad σ' ++ WM g am τ') → W p l e room_1 s m args below meth c H1 locs1 36 790 Q (F0 m 1120 ls [])) : W p l e room_1 s m args below meth c H locs 36 790 Q (F0 m 1097 ls []) := by
  refine lv_aload_n X.1 X.2.1 dL_law_1097 rfl (lv_at hl 1 rfl) ?_
  refine lA X hV Y hl (j := 1) (by decide) hI.1 dL_law_1098 dL_law_1099 dL_law_1100 dL_law_1101 dL_law_1102 ?_
  obtain ⟨r, e1, e2⟩ := q_many hR (xs (x + 1).toNatClampNeg)
  refine lVi X (hml.trans hl.1.symm) Y (As := [.int (xs (x + 1).toNatClampNeg)]) (c_fX3_many l D g ad σ (xs (x + 1).toNatClampNeg) e1) (q0 := 0) (ci := 2) rfl rfl (gV tw_459 tw_460 tw_461 tw_33 tw_462) rfl fd_X3_many ⟨(Nat.le_of_ble_eq_true rfl), (Nat.le_of_ble_eq_true rfl)⟩ ⟨(Nat.le_of_ble_eq_true rfl), (Nat.le_of_ble_eq_true rfl)⟩ (rest := []) rfl (Nat.le_of_ble_eq_true rfl) dL_law_1103 (fun H locs Y => ?_)
  refine lv_aload_n X.1 X.2.1 dL_law_1106 rfl (lv_at hl 2 rfl) ?_
  refine lA X hV Y hl (j := 1) (by decide) hI.1 dL_law_1107 dL_law_1108 dL_law_1109 dL_law_1110 dL_law_1111 ?_
  refine lVi X (hml.trans hl.1.symm) Y.comm (As := [.int (xs (x + 1).toNatClampNeg)]) (c_fX4_many l D g am τ (xs (x + 1).toNatClampNeg) e2) (q0 := 0) (ci := 3) rfl rfl (gV tw_780 tw_781 tw_782 tw_36 tw_783) rfl fd_X4_many ⟨(Nat.le_of_ble_eq_true rfl), (Nat.le_of_ble_eq_true rfl)⟩ ⟨(Nat.le_of_ble_eq_true rfl), (Nat.le_of_ble_eq_true rfl)⟩ (rest := [.int r]) rfl (Nat.le_of_ble_eq_true rfl) dL_law_1112 (fun H locs Y => ?_)
  exact lv_icmp_eq (tgt := 1120) X.1 X.2.1 dL_law_1115 (by decide) (fun _ => kk σ τ _ _ hR Y.comm) (fun h => absurd rfl h)
end CS

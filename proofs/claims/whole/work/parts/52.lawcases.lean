/-- the law goes on from a place with i numbers read -/
def LN (p : Program) (l : Launch) (e : Env) (s : State) (m : MethodId) (b : Nat) (below : List Frame) (meth : Method) (c : Code) (Q : State → Prop) (D : va_G) (cA : ClassId) (ad bd : Nat → Nat) (i pc : Nat) : Prop :=
  ∀ (si : tSI) (sa : tSA) (ti : tSI) (ta : tSA), Rel si sa ti ta → ∀ (H : Heap) (locs : List Loc) (ls : Array Slot), va_P D vwCl (WX cA ad si sa ++ WM cA bd ti ta) H → va_D (fun q : Nat => s.heap.size ≤ q) (WX cA ad si sa ++ WM cA bd ti ta) → va_S (fun q : Nat => s.heap.size ≤ q) s.heap H locs → lv_has ls 4 [(3, .int (nI i)), (2, .ref (bd 0)), (1, .ref (ad 0)), (0, .ref b)] → W p l e room_1 s m #[Value.ref b] below meth c H locs 44 1112 Q (F0 m pc ls [])
section LCASES
variable {p : Program} {l : Launch} {e : Env} {s : State} {m : MethodId} {below : List Frame} {meth : Method} {c : Code} {Q : State → Prop} {D : va_G} {cA : ClassId} {ad bd : Nat → Nat} {b L i : Nat} {xs : Nat → Int32}
set_option maxHeartbeats 4000000 in
set_option maxRecDepth 100000 in
theorem law_floor (hL : L ≤ 384) (C0 : Cx p s m #[Value.ref b] c RL cL_law 4 D cA) (hX : va_X b L xs s s.heap) (hbl : b < s.heap.size) (hi : i + 6 ≤ L) (hN : LN p l e s m b below meth c Q D cA ad bd i 1069) : LN p l e s m b below meth c Q D cA ad bd i 156 := by
  intro si sa ti ta R H locs ls hP hD hS hl
  have hA : ∀ q : Nat, s.heap.size ≤ q → (fun q : Nat => s.heap.size ≤ q) q := fun _ h => h
  have hbA : ¬ (fun q : Nat => s.heap.size ≤ q) b := Nat.not_le.mpr hbl
  obtain ⟨r, si', sa', ti', ta', e1, e2, R⟩ := e_floor R (xs (i + 1)) (xs (i + 2)) (xs (i + 3)) (xs (i + 4))
  refine lv_aload_n C0.1 C0.2.1 dL_law_156 rfl (lv_at hl 2 rfl) ?_
  refine rArg C0 hX hbl hbA hS hl 1 (by omega) hL rfl dL_law_157 dL_law_158 dL_law_159 dL_law_160 dL_law_161 ?_
  refine rArg C0 hX hbl hbA hS hl 2 (by omega) hL rfl dL_law_162 dL_law_163 dL_law_164 dL_law_165 dL_law_166 ?_
  refine rArg C0 hX hbl hbA hS hl 3 (by omega) hL rfl dL_law_167 dL_law_168 dL_law_169 dL_law_170 dL_law_171 ?_
  refine rArg C0 hX hbl hbA hS hl 4 (by omega) hL rfl dL_law_172 dL_law_173 dL_law_174 dL_law_175 dL_law_176 ?_
  refine kcX (si' := si') (sa' := sa') (As := [.int (xs (i + 1)), .int (xs (i + 2)), .int (xs (i + 3)), .int (xs (i + 4))]) (rest := []) C0 hA hP hD hS (c_X5_floor l D cA ad si sa (xs (i + 1)) (xs (i + 2)) (xs (i + 3)) (xs (i + 4)) (r, si', sa') e1) lk_X5_floor q171 q172 q170 rfl hl.1 rfl rfl (Nat.le_of_ble_eq_true rfl) ⟨Nat.le_of_ble_eq_true rfl, Nat.le_of_ble_eq_true rfl⟩ ⟨Nat.le_of_ble_eq_true rfl, Nat.le_of_ble_eq_true rfl⟩ dL_law_177 (fun H locs hP hD hS => ?_)
  refine lv_aload_n C0.1 C0.2.1 dL_law_180 rfl (lv_at hl 1 rfl) ?_
  refine rArg C0 hX hbl hbA hS hl 1 (by omega) hL rfl dL_law_181 dL_law_182 dL_law_183 dL_law_184 dL_law_185 ?_
  refine rArg C0 hX hbl hbA hS hl 2 (by omega) hL rfl dL_law_186 dL_law_187 dL_law_188 dL_law_189 dL_law_190 ?_
  refine rArg C0 hX hbl hbA hS hl 3 (by omega) hL rfl dL_law_191 dL_law_192 dL_law_193 dL_law_194 dL_law_195 ?_
  refine rArg C0 hX hbl hbA hS hl 4 (by omega) hL rfl dL_law_196 dL_law_197 dL_law_198 dL_law_199 dL_law_200 ?_
  refine kcM (ti' := ti') (ta' := ta') (As := [.int (xs (i + 1)), .int (xs (i + 2)), .int (xs (i + 3)), .int (xs (i + 4))]) (rest := [.int r]) C0 hA hP hD hS (c_X6_floor l D cA bd ti ta (xs (i + 1)) (xs (i + 2)) (xs (i + 3)) (xs (i + 4)) (r, ti', ta') e2) lk_X6_floor q678 q679 q677 rfl hl.1 rfl rfl (Nat.le_of_ble_eq_true rfl) ⟨Nat.le_of_ble_eq_true rfl, Nat.le_of_ble_eq_true rfl⟩ ⟨Nat.le_of_ble_eq_true rfl, Nat.le_of_ble_eq_true rfl⟩ dL_law_201 (fun H locs hP hD hS => ?_)
  refine lv_icmp_eq (tgt := 1069) C0.1 C0.2.1 dL_law_204 (by decide) (fun _ => ?_) (fun z => absurd rfl z)
  exact hN _ _ _ _ R _ _ _ hP hD hS hl
set_option maxHeartbeats 4000000 in
set_option maxRecDepth 100000 in
theorem law_ofSort (hL : L ≤ 384) (C0 : Cx p s m #[Value.ref b] c RL cL_law 4 D cA) (hX : va_X b L xs s s.heap) (hbl : b < s.heap.size) (hi : i + 6 ≤ L) (hN : LN p l e s m b below meth c Q D cA ad bd i 1069) : LN p l e s m b below meth c Q D cA ad bd i 209 := by
  intro si sa ti ta R H locs ls hP hD hS hl
  have hA : ∀ q : Nat, s.heap.size ≤ q → (fun q : Nat => s.heap.size ≤ q) q := fun _ h => h
  have hbA : ¬ (fun q : Nat => s.heap.size ≤ q) b := Nat.not_le.mpr hbl
  obtain ⟨r, e1, e2⟩ := e_ofSort R (xs (i + 1)) (xs (i + 2))
  refine lv_aload_n C0.1 C0.2.1 dL_law_209 rfl (lv_at hl 2 rfl) ?_
  refine rArg C0 hX hbl hbA hS hl 1 (by omega) hL rfl dL_law_210 dL_law_211 dL_law_212 dL_law_213 dL_law_214 ?_
  refine rArg C0 hX hbl hbA hS hl 2 (by omega) hL rfl dL_law_215 dL_law_216 dL_law_217 dL_law_218 dL_law_219 ?_
  refine kcX (si' := si) (sa' := sa) (As := [.int (xs (i + 1)), .int (xs (i + 2))]) (rest := []) C0 hA hP hD hS (c_X5_ofSort l D cA ad si sa (xs (i + 1)) (xs (i + 2)) r e1) lk_X5_ofSort q248 q249 q247 rfl hl.1 rfl rfl (Nat.le_of_ble_eq_true rfl) ⟨Nat.le_of_ble_eq_true rfl, Nat.le_of_ble_eq_true rfl⟩ ⟨Nat.le_of_ble_eq_true rfl, Nat.le_of_ble_eq_true rfl⟩ dL_law_220 (fun H locs hP hD hS => ?_)
  refine lv_aload_n C0.1 C0.2.1 dL_law_223 rfl (lv_at hl 1 rfl) ?_
  refine rArg C0 hX hbl hbA hS hl 1 (by omega) hL rfl dL_law_224 dL_law_225 dL_law_226 dL_law_227 dL_law_228 ?_
  refine rArg C0 hX hbl hbA hS hl 2 (by omega) hL rfl dL_law_229 dL_law_230 dL_law_231 dL_law_232 dL_law_233 ?_
  refine kcM (ti' := ti) (ta' := ta) (As := [.int (xs (i + 1)), .int (xs (i + 2))]) (rest := [.int r]) C0 hA hP hD hS (c_X6_ofSort l D cA bd ti ta (xs (i + 1)) (xs (i + 2)) r e2) lk_X6_ofSort q725 q726 q724 rfl hl.1 rfl rfl (Nat.le_of_ble_eq_true rfl) ⟨Nat.le_of_ble_eq_true rfl, Nat.le_of_ble_eq_true rfl⟩ ⟨Nat.le_of_ble_eq_true rfl, Nat.le_of_ble_eq_true rfl⟩ dL_law_234 (fun H locs hP hD hS => ?_)
  refine lv_icmp_eq (tgt := 1069) C0.1 C0.2.1 dL_law_237 (by decide) (fun _ => ?_) (fun z => absurd rfl z)
  exact hN _ _ _ _ R _ _ _ hP hD hS hl
set_option maxHeartbeats 4000000 in
set_option maxRecDepth 100000 in
theorem law_ofSign (hL : L ≤ 384) (C0 : Cx p s m #[Value.ref b] c RL cL_law 4 D cA) (hX : va_X b L xs s s.heap) (hbl : b < s.heap.size) (hi : i + 6 ≤ L) (hN : LN p l e s m b below meth c Q D cA ad bd i 1069) : LN p l e s m b below meth c Q D cA ad bd i 242 := by
  intro si sa ti ta R H locs ls hP hD hS hl
  have hA : ∀ q : Nat, s.heap.size ≤ q → (fun q : Nat => s.heap.size ≤ q) q := fun _ h => h
  have hbA : ¬ (fun q : Nat => s.heap.size ≤ q) b := Nat.not_le.mpr hbl
  obtain ⟨r, e1, e2⟩ := e_ofSign R (xs (i + 1))
  refine lv_aload_n C0.1 C0.2.1 dL_law_242 rfl (lv_at hl 2 rfl) ?_
  refine rArg C0 hX hbl hbA hS hl 1 (by omega) hL rfl dL_law_243 dL_law_244 dL_law_245 dL_law_246 dL_law_247 ?_
  refine kcX (si' := si) (sa' := sa) (As := [.int (xs (i + 1))]) (rest := []) C0 hA hP hD hS (c_X5_ofSign l D cA ad si sa (xs (i + 1)) r e1) lk_X5_ofSign q259 q260 q258 rfl hl.1 rfl rfl (Nat.le_of_ble_eq_true rfl) ⟨Nat.le_of_ble_eq_true rfl, Nat.le_of_ble_eq_true rfl⟩ ⟨Nat.le_of_ble_eq_true rfl, Nat.le_of_ble_eq_true rfl⟩ dL_law_248 (fun H locs hP hD hS => ?_)
  refine lv_aload_n C0.1 C0.2.1 dL_law_251 rfl (lv_at hl 1 rfl) ?_
  refine rArg C0 hX hbl hbA hS hl 1 (by omega) hL rfl dL_law_252 dL_law_253 dL_law_254 dL_law_255 dL_law_256 ?_
  refine kcM (ti' := ti) (ta' := ta) (As := [.int (xs (i + 1))]) (rest := [.int r]) C0 hA hP hD hS (c_X6_ofSign l D cA bd ti ta (xs (i + 1)) r e2) lk_X6_ofSign q737 q738 q736 rfl hl.1 rfl rfl (Nat.le_of_ble_eq_true rfl) ⟨Nat.le_of_ble_eq_true rfl, Nat.le_of_ble_eq_true rfl⟩ ⟨Nat.le_of_ble_eq_true rfl, Nat.le_of_ble_eq_true rfl⟩ dL_law_257 (fun H locs hP hD hS => ?_)
  refine lv_icmp_eq (tgt := 1069) C0.1 C0.2.1 dL_law_260 (by decide) (fun _ => ?_) (fun z => absurd rfl z)
  exact hN _ _ _ _ R _ _ _ hP hD hS hl
set_option maxHeartbeats 4000000 in
set_option maxRecDepth 100000 in
theorem law_lay (hL : L ≤ 384) (C0 : Cx p s m #[Value.ref b] c RL cL_law 4 D cA) (hX : va_X b L xs s s.heap) (hbl : b < s.heap.size) (hi : i + 6 ≤ L) (hN : LN p l e s m b below meth c Q D cA ad bd i 1069) : LN p l e s m b below meth c Q D cA ad bd i 265 := by
  intro si sa ti ta R H locs ls hP hD hS hl
  have hA : ∀ q : Nat, s.heap.size ≤ q → (fun q : Nat => s.heap.size ≤ q) q := fun _ h => h
  have hbA : ¬ (fun q : Nat => s.heap.size ≤ q) b := Nat.not_le.mpr hbl
  obtain ⟨r, si', sa', ti', ta', e1, e2, R⟩ := e_lay R (xs (i + 1)) (xs (i + 2))
  refine lv_aload_n C0.1 C0.2.1 dL_law_265 rfl (lv_at hl 2 rfl) ?_
  refine rArg C0 hX hbl hbA hS hl 1 (by omega) hL rfl dL_law_266 dL_law_267 dL_law_268 dL_law_269 dL_law_270 ?_
  refine rArg C0 hX hbl hbA hS hl 2 (by omega) hL rfl dL_law_271 dL_law_272 dL_law_273 dL_law_274 dL_law_275 ?_
  refine kcX (si' := si') (sa' := sa') (As := [.int (xs (i + 1)), .int (xs (i + 2))]) (rest := []) C0 hA hP hD hS (c_X5_lay l D cA ad si sa (xs (i + 1)) (xs (i + 2)) (r, si', sa') e1) lk_X5_lay q267 q268 q266 rfl hl.1 rfl rfl (Nat.le_of_ble_eq_true rfl) ⟨Nat.le_of_ble_eq_true rfl, Nat.le_of_ble_eq_true rfl⟩ ⟨Nat.le_of_ble_eq_true rfl, Nat.le_of_ble_eq_true rfl⟩ dL_law_276 (fun H locs hP hD hS => ?_)
  refine lv_aload_n C0.1 C0.2.1 dL_law_279 rfl (lv_at hl 1 rfl) ?_
  refine rArg C0 hX hbl hbA hS hl 1 (by omega) hL rfl dL_law_280 dL_law_281 dL_law_282 dL_law_283 dL_law_284 ?_
  refine rArg C0 hX hbl hbA hS hl 2 (by omega) hL rfl dL_law_285 dL_law_286 dL_law_287 dL_law_288 dL_law_289 ?_
  refine kcM (ti' := ti') (ta' := ta') (As := [.int (xs (i + 1)), .int (xs (i + 2))]) (rest := [.int r]) C0 hA hP hD hS (c_X6_lay l D cA bd ti ta (xs (i + 1)) (xs (i + 2)) (r, ti', ta') e2) lk_X6_lay q749 q750 q748 rfl hl.1 rfl rfl (Nat.le_of_ble_eq_true rfl) ⟨Nat.le_of_ble_eq_true rfl, Nat.le_of_ble_eq_true rfl⟩ ⟨Nat.le_of_ble_eq_true rfl, Nat.le_of_ble_eq_true rfl⟩ dL_law_290 (fun H locs hP hD hS => ?_)
  refine lv_icmp_eq (tgt := 1069) C0.1 C0.2.1 dL_law_293 (by decide) (fun _ => ?_) (fun z => absurd rfl z)
  exact hN _ _ _ _ R _ _ _ hP hD hS hl
set_option maxHeartbeats 4000000 in
set_option maxRecDepth 100000 in
theorem law_sign (hL : L ≤ 384) (C0 : Cx p s m #[Value.ref b] c RL cL_law 4 D cA) (hX : va_X b L xs s s.heap) (hbl : b < s.heap.size) (hi : i + 6 ≤ L) (hN : LN p l e s m b below meth c Q D cA ad bd i 1069) : LN p l e s m b below meth c Q D cA ad bd i 298 := by
  intro si sa ti ta R H locs ls hP hD hS hl
  have hA : ∀ q : Nat, s.heap.size ≤ q → (fun q : Nat => s.heap.size ≤ q) q := fun _ h => h
  have hbA : ¬ (fun q : Nat => s.heap.size ≤ q) b := Nat.not_le.mpr hbl
  obtain ⟨r, si', sa', ti', ta', e1, e2, R⟩ := e_sign R (xs (i + 1)) (xs (i + 2))
  refine lv_aload_n C0.1 C0.2.1 dL_law_298 rfl (lv_at hl 2 rfl) ?_
  refine rArg C0 hX hbl hbA hS hl 1 (by omega) hL rfl dL_law_299 dL_law_300 dL_law_301 dL_law_302 dL_law_303 ?_
  refine rArg C0 hX hbl hbA hS hl 2 (by omega) hL rfl dL_law_304 dL_law_305 dL_law_306 dL_law_307 dL_law_308 ?_
  refine kcX (si' := si') (sa' := sa') (As := [.int (xs (i + 1)), .int (xs (i + 2))]) (rest := []) C0 hA hP hD hS (c_X5_sign l D cA ad si sa (xs (i + 1)) (xs (i + 2)) (r, si', sa') e1) lk_X5_sign q271 q272 q270 rfl hl.1 rfl rfl (Nat.le_of_ble_eq_true rfl) ⟨Nat.le_of_ble_eq_true rfl, Nat.le_of_ble_eq_true rfl⟩ ⟨Nat.le_of_ble_eq_true rfl, Nat.le_of_ble_eq_true rfl⟩ dL_law_309 (fun H locs hP hD hS => ?_)
  refine lv_aload_n C0.1 C0.2.1 dL_law_312 rfl (lv_at hl 1 rfl) ?_
  refine rArg C0 hX hbl hbA hS hl 1 (by omega) hL rfl dL_law_313 dL_law_314 dL_law_315 dL_law_316 dL_law_317 ?_
  refine rArg C0 hX hbl hbA hS hl 2 (by omega) hL rfl dL_law_318 dL_law_319 dL_law_320 dL_law_321 dL_law_322 ?_
  refine kcM (ti' := ti') (ta' := ta') (As := [.int (xs (i + 1)), .int (xs (i + 2))]) (rest := [.int r]) C0 hA hP hD hS (c_X6_sign l D cA bd ti ta (xs (i + 1)) (xs (i + 2)) (r, ti', ta') e2) lk_X6_sign q754 q755 q753 rfl hl.1 rfl rfl (Nat.le_of_ble_eq_true rfl) ⟨Nat.le_of_ble_eq_true rfl, Nat.le_of_ble_eq_true rfl⟩ ⟨Nat.le_of_ble_eq_true rfl, Nat.le_of_ble_eq_true rfl⟩ dL_law_323 (fun H locs hP hD hS => ?_)
  refine lv_icmp_eq (tgt := 1069) C0.1 C0.2.1 dL_law_326 (by decide) (fun _ => ?_) (fun z => absurd rfl z)
  exact hN _ _ _ _ R _ _ _ hP hD hS hl
set_option maxHeartbeats 4000000 in
set_option maxRecDepth 100000 in
theorem law_plan (hL : L ≤ 384) (C0 : Cx p s m #[Value.ref b] c RL cL_law 4 D cA) (hX : va_X b L xs s s.heap) (hbl : b < s.heap.size) (hi : i + 6 ≤ L) (hN : LN p l e s m b below meth c Q D cA ad bd i 1069) : LN p l e s m b below meth c Q D cA ad bd i 331 := by
  intro si sa ti ta R H locs ls hP hD hS hl
  have hA : ∀ q : Nat, s.heap.size ≤ q → (fun q : Nat => s.heap.size ≤ q) q := fun _ h => h
  have hbA : ¬ (fun q : Nat => s.heap.size ≤ q) b := Nat.not_le.mpr hbl
  obtain ⟨r, si', sa', ti', ta', e1, e2, R⟩ := e_plan R (xs (i + 1)) (xs (i + 2)) (xs (i + 3)) (xs (i + 4)) (xs (i + 5))
  refine lv_aload_n C0.1 C0.2.1 dL_law_331 rfl (lv_at hl 2 rfl) ?_
  refine rArg C0 hX hbl hbA hS hl 1 (by omega) hL rfl dL_law_332 dL_law_333 dL_law_334 dL_law_335 dL_law_336 ?_
  refine rArg C0 hX hbl hbA hS hl 2 (by omega) hL rfl dL_law_337 dL_law_338 dL_law_339 dL_law_340 dL_law_341 ?_
  refine rArg C0 hX hbl hbA hS hl 3 (by omega) hL rfl dL_law_342 dL_law_343 dL_law_344 dL_law_345 dL_law_346 ?_
  refine rArg C0 hX hbl hbA hS hl 4 (by omega) hL rfl dL_law_347 dL_law_348 dL_law_349 dL_law_350 dL_law_351 ?_
  refine rArg C0 hX hbl hbA hS hl 5 (by omega) hL rfl dL_law_352 dL_law_353 dL_law_354 dL_law_355 dL_law_356 ?_
  refine kcX (si' := si') (sa' := sa') (As := [.int (xs (i + 1)), .int (xs (i + 2)), .int (xs (i + 3)), .int (xs (i + 4)), .int (xs (i + 5))]) (rest := []) C0 hA hP hD hS (c_X5_plan l D cA ad si sa (xs (i + 1)) (xs (i + 2)) (xs (i + 3)) (xs (i + 4)) (xs (i + 5)) (r, si', sa') e1) lk_X5_plan q276 q277 q275 rfl hl.1 rfl rfl (Nat.le_of_ble_eq_true rfl) ⟨Nat.le_of_ble_eq_true rfl, Nat.le_of_ble_eq_true rfl⟩ ⟨Nat.le_of_ble_eq_true rfl, Nat.le_of_ble_eq_true rfl⟩ dL_law_357 (fun H locs hP hD hS => ?_)
  refine lv_aload_n C0.1 C0.2.1 dL_law_360 rfl (lv_at hl 1 rfl) ?_
  refine rArg C0 hX hbl hbA hS hl 1 (by omega) hL rfl dL_law_361 dL_law_362 dL_law_363 dL_law_364 dL_law_365 ?_
  refine rArg C0 hX hbl hbA hS hl 2 (by omega) hL rfl dL_law_366 dL_law_367 dL_law_368 dL_law_369 dL_law_370 ?_
  refine rArg C0 hX hbl hbA hS hl 3 (by omega) hL rfl dL_law_371 dL_law_372 dL_law_373 dL_law_374 dL_law_375 ?_
  refine rArg C0 hX hbl hbA hS hl 4 (by omega) hL rfl dL_law_376 dL_law_377 dL_law_378 dL_law_379 dL_law_380 ?_
  refine rArg C0 hX hbl hbA hS hl 5 (by omega) hL rfl dL_law_381 dL_law_382 dL_law_383 dL_law_384 dL_law_385 ?_
  refine kcM (ti' := ti') (ta' := ta') (As := [.int (xs (i + 1)), .int (xs (i + 2)), .int (xs (i + 3)), .int (xs (i + 4)), .int (xs (i + 5))]) (rest := [.int r]) C0 hA hP hD hS (c_X6_plan l D cA bd ti ta (xs (i + 1)) (xs (i + 2)) (xs (i + 3)) (xs (i + 4)) (xs (i + 5)) (r, ti', ta') e2) lk_X6_plan q759 q760 q758 rfl hl.1 rfl rfl (Nat.le_of_ble_eq_true rfl) ⟨Nat.le_of_ble_eq_true rfl, Nat.le_of_ble_eq_true rfl⟩ ⟨Nat.le_of_ble_eq_true rfl, Nat.le_of_ble_eq_true rfl⟩ dL_law_386 (fun H locs hP hD hS => ?_)
  refine lv_icmp_eq (tgt := 1069) C0.1 C0.2.1 dL_law_389 (by decide) (fun _ => ?_) (fun z => absurd rfl z)
  exact hN _ _ _ _ R _ _ _ hP hD hS hl
set_option maxHeartbeats 4000000 in
set_option maxRecDepth 100000 in
theorem law_line (hL : L ≤ 384) (C0 : Cx p s m #[Value.ref b] c RL cL_law 4 D cA) (hX : va_X b L xs s s.heap) (hbl : b < s.heap.size) (hi : i + 6 ≤ L) (hN : LN p l e s m b below meth c Q D cA ad bd i 1069) : LN p l e s m b below meth c Q D cA ad bd i 394 := by
  intro si sa ti ta R H locs ls hP hD hS hl
  have hA : ∀ q : Nat, s.heap.size ≤ q → (fun q : Nat => s.heap.size ≤ q) q := fun _ h => h
  have hbA : ¬ (fun q : Nat => s.heap.size ≤ q) b := Nat.not_le.mpr hbl
  obtain ⟨r, si', sa', ti', ta', e1, e2, R⟩ := e_line R (xs (i + 1)) (xs (i + 2)) (xs (i + 3)) (xs (i + 4))
  refine lv_aload_n C0.1 C0.2.1 dL_law_394 rfl (lv_at hl 2 rfl) ?_
  refine rArg C0 hX hbl hbA hS hl 1 (by omega) hL rfl dL_law_395 dL_law_396 dL_law_397 dL_law_398 dL_law_399 ?_
  refine rArg C0 hX hbl hbA hS hl 2 (by omega) hL rfl dL_law_400 dL_law_401 dL_law_402 dL_law_403 dL_law_404 ?_
  refine rArg C0 hX hbl hbA hS hl 3 (by omega) hL rfl dL_law_405 dL_law_406 dL_law_407 dL_law_408 dL_law_409 ?_
  refine rArg C0 hX hbl hbA hS hl 4 (by omega) hL rfl dL_law_410 dL_law_411 dL_law_412 dL_law_413 dL_law_414 ?_
  refine kcX (si' := si') (sa' := sa') (As := [.int (xs (i + 1)), .int (xs (i + 2)), .int (xs (i + 3)), .int (xs (i + 4))]) (rest := []) C0 hA hP hD hS (c_X5_line l D cA ad si sa (xs (i + 1)) (xs (i + 2)) (xs (i + 3)) (xs (i + 4)) (r, si', sa') e1) lk_X5_line q344 q345 q343 rfl hl.1 rfl rfl (Nat.le_of_ble_eq_true rfl) ⟨Nat.le_of_ble_eq_true rfl, Nat.le_of_ble_eq_true rfl⟩ ⟨Nat.le_of_ble_eq_true rfl, Nat.le_of_ble_eq_true rfl⟩ dL_law_415 (fun H locs hP hD hS => ?_)
  refine lv_aload_n C0.1 C0.2.1 dL_law_418 rfl (lv_at hl 1 rfl) ?_
  refine rArg C0 hX hbl hbA hS hl 1 (by omega) hL rfl dL_law_419 dL_law_420 dL_law_421 dL_law_422 dL_law_423 ?_
  refine rArg C0 hX hbl hbA hS hl 2 (by omega) hL rfl dL_law_424 dL_law_425 dL_law_426 dL_law_427 dL_law_428 ?_
  refine rArg C0 hX hbl hbA hS hl 3 (by omega) hL rfl dL_law_429 dL_law_430 dL_law_431 dL_law_432 dL_law_433 ?_
  refine rArg C0 hX hbl hbA hS hl 4 (by omega) hL rfl dL_law_434 dL_law_435 dL_law_436 dL_law_437 dL_law_438 ?_
  refine kcM (ti' := ti') (ta' := ta') (As := [.int (xs (i + 1)), .int (xs (i + 2)), .int (xs (i + 3)), .int (xs (i + 4))]) (rest := [.int r]) C0 hA hP hD hS (c_X6_line l D cA bd ti ta (xs (i + 1)) (xs (i + 2)) (xs (i + 3)) (xs (i + 4)) (r, ti', ta') e2) lk_X6_line q806 q807 q805 rfl hl.1 rfl rfl (Nat.le_of_ble_eq_true rfl) ⟨Nat.le_of_ble_eq_true rfl, Nat.le_of_ble_eq_true rfl⟩ ⟨Nat.le_of_ble_eq_true rfl, Nat.le_of_ble_eq_true rfl⟩ dL_law_439 (fun H locs hP hD hS => ?_)
  refine lv_icmp_eq (tgt := 1069) C0.1 C0.2.1 dL_law_442 (by decide) (fun _ => ?_) (fun z => absurd rfl z)
  exact hN _ _ _ _ R _ _ _ hP hD hS hl
set_option maxHeartbeats 4000000 in
set_option maxRecDepth 100000 in
theorem law_soon (hL : L ≤ 384) (C0 : Cx p s m #[Value.ref b] c RL cL_law 4 D cA) (hX : va_X b L xs s s.heap) (hbl : b < s.heap.size) (hi : i + 6 ≤ L) (hN : LN p l e s m b below meth c Q D cA ad bd i 1069) : LN p l e s m b below meth c Q D cA ad bd i 447 := by
  intro si sa ti ta R H locs ls hP hD hS hl
  have hA : ∀ q : Nat, s.heap.size ≤ q → (fun q : Nat => s.heap.size ≤ q) q := fun _ h => h
  have hbA : ¬ (fun q : Nat => s.heap.size ≤ q) b := Nat.not_le.mpr hbl
  obtain ⟨r, si', sa', ti', ta', e1, e2, R⟩ := e_soon R (xs (i + 1)) (xs (i + 2)) (xs (i + 3)) (xs (i + 4)) (xs (i + 5))
  refine lv_aload_n C0.1 C0.2.1 dL_law_447 rfl (lv_at hl 2 rfl) ?_
  refine rArg C0 hX hbl hbA hS hl 1 (by omega) hL rfl dL_law_448 dL_law_449 dL_law_450 dL_law_451 dL_law_452 ?_
  refine rArg C0 hX hbl hbA hS hl 2 (by omega) hL rfl dL_law_453 dL_law_454 dL_law_455 dL_law_456 dL_law_457 ?_
  refine rArg C0 hX hbl hbA hS hl 3 (by omega) hL rfl dL_law_458 dL_law_459 dL_law_460 dL_law_461 dL_law_462 ?_
  refine rArg C0 hX hbl hbA hS hl 4 (by omega) hL rfl dL_law_463 dL_law_464 dL_law_465 dL_law_466 dL_law_467 ?_
  refine rArg C0 hX hbl hbA hS hl 5 (by omega) hL rfl dL_law_468 dL_law_469 dL_law_470 dL_law_471 dL_law_472 ?_
  refine kcX (si' := si') (sa' := sa') (As := [.int (xs (i + 1)), .int (xs (i + 2)), .int (xs (i + 3)), .int (xs (i + 4)), .int (xs (i + 5))]) (rest := []) C0 hA hP hD hS (c_X5_soon l D cA ad si sa (xs (i + 1)) (xs (i + 2)) (xs (i + 3)) (xs (i + 4)) (xs (i + 5)) (r, si', sa') e1) lk_X5_soon q352 q353 q351 rfl hl.1 rfl rfl (Nat.le_of_ble_eq_true rfl) ⟨Nat.le_of_ble_eq_true rfl, Nat.le_of_ble_eq_true rfl⟩ ⟨Nat.le_of_ble_eq_true rfl, Nat.le_of_ble_eq_true rfl⟩ dL_law_473 (fun H locs hP hD hS => ?_)
  refine lv_aload_n C0.1 C0.2.1 dL_law_476 rfl (lv_at hl 1 rfl) ?_
  refine rArg C0 hX hbl hbA hS hl 1 (by omega) hL rfl dL_law_477 dL_law_478 dL_law_479 dL_law_480 dL_law_481 ?_
  refine rArg C0 hX hbl hbA hS hl 2 (by omega) hL rfl dL_law_482 dL_law_483 dL_law_484 dL_law_485 dL_law_486 ?_
  refine rArg C0 hX hbl hbA hS hl 3 (by omega) hL rfl dL_law_487 dL_law_488 dL_law_489 dL_law_490 dL_law_491 ?_
  refine rArg C0 hX hbl hbA hS hl 4 (by omega) hL rfl dL_law_492 dL_law_493 dL_law_494 dL_law_495 dL_law_496 ?_
  refine rArg C0 hX hbl hbA hS hl 5 (by omega) hL rfl dL_law_497 dL_law_498 dL_law_499 dL_law_500 dL_law_501 ?_
  refine kcM (ti' := ti') (ta' := ta') (As := [.int (xs (i + 1)), .int (xs (i + 2)), .int (xs (i + 3)), .int (xs (i + 4)), .int (xs (i + 5))]) (rest := [.int r]) C0 hA hP hD hS (c_X6_soon l D cA bd ti ta (xs (i + 1)) (xs (i + 2)) (xs (i + 3)) (xs (i + 4)) (xs (i + 5)) (r, ti', ta') e2) lk_X6_soon q811 q812 q810 rfl hl.1 rfl rfl (Nat.le_of_ble_eq_true rfl) ⟨Nat.le_of_ble_eq_true rfl, Nat.le_of_ble_eq_true rfl⟩ ⟨Nat.le_of_ble_eq_true rfl, Nat.le_of_ble_eq_true rfl⟩ dL_law_502 (fun H locs hP hD hS => ?_)
  refine lv_icmp_eq (tgt := 1069) C0.1 C0.2.1 dL_law_505 (by decide) (fun _ => ?_) (fun z => absurd rfl z)
  exact hN _ _ _ _ R _ _ _ hP hD hS hl
set_option maxHeartbeats 4000000 in
set_option maxRecDepth 100000 in
theorem law_order (hL : L ≤ 384) (C0 : Cx p s m #[Value.ref b] c RL cL_law 4 D cA) (hX : va_X b L xs s s.heap) (hbl : b < s.heap.size) (hi : i + 6 ≤ L) (hN : LN p l e s m b below meth c Q D cA ad bd i 1069) : LN p l e s m b below meth c Q D cA ad bd i 510 := by
  intro si sa ti ta R H locs ls hP hD hS hl
  have hA : ∀ q : Nat, s.heap.size ≤ q → (fun q : Nat => s.heap.size ≤ q) q := fun _ h => h
  have hbA : ¬ (fun q : Nat => s.heap.size ≤ q) b := Nat.not_le.mpr hbl
  obtain ⟨r, si', sa', ti', ta', e1, e2, R⟩ := e_order R (xs (i + 1))
  refine lv_aload_n C0.1 C0.2.1 dL_law_510 rfl (lv_at hl 2 rfl) ?_
  refine rArg C0 hX hbl hbA hS hl 1 (by omega) hL rfl dL_law_511 dL_law_512 dL_law_513 dL_law_514 dL_law_515 ?_
  refine kcX (si' := si') (sa' := sa') (As := [.int (xs (i + 1))]) (rest := []) C0 hA hP hD hS (c_X5_order l D cA ad si sa (xs (i + 1)) (r, si', sa') e1) lk_X5_order q367 q368 q366 rfl hl.1 rfl rfl (Nat.le_of_ble_eq_true rfl) ⟨Nat.le_of_ble_eq_true rfl, Nat.le_of_ble_eq_true rfl⟩ ⟨Nat.le_of_ble_eq_true rfl, Nat.le_of_ble_eq_true rfl⟩ dL_law_516 (fun H locs hP hD hS => ?_)
  refine lv_aload_n C0.1 C0.2.1 dL_law_519 rfl (lv_at hl 1 rfl) ?_
  refine rArg C0 hX hbl hbA hS hl 1 (by omega) hL rfl dL_law_520 dL_law_521 dL_law_522 dL_law_523 dL_law_524 ?_
  refine kcM (ti' := ti') (ta' := ta') (As := [.int (xs (i + 1))]) (rest := [.int r]) C0 hA hP hD hS (c_X6_order l D cA bd ti ta (xs (i + 1)) (r, ti', ta') e2) lk_X6_order q815 q816 q814 rfl hl.1 rfl rfl (Nat.le_of_ble_eq_true rfl) ⟨Nat.le_of_ble_eq_true rfl, Nat.le_of_ble_eq_true rfl⟩ ⟨Nat.le_of_ble_eq_true rfl, Nat.le_of_ble_eq_true rfl⟩ dL_law_525 (fun H locs hP hD hS => ?_)
  refine lv_icmp_eq (tgt := 1069) C0.1 C0.2.1 dL_law_528 (by decide) (fun _ => ?_) (fun z => absurd rfl z)
  exact hN _ _ _ _ R _ _ _ hP hD hS hl
set_option maxHeartbeats 4000000 in
set_option maxRecDepth 100000 in
theorem law_tree (hL : L ≤ 384) (C0 : Cx p s m #[Value.ref b] c RL cL_law 4 D cA) (hX : va_X b L xs s s.heap) (hbl : b < s.heap.size) (hi : i + 6 ≤ L) (hN : LN p l e s m b below meth c Q D cA ad bd i 1069) : LN p l e s m b below meth c Q D cA ad bd i 533 := by
  intro si sa ti ta R H locs ls hP hD hS hl
  have hA : ∀ q : Nat, s.heap.size ≤ q → (fun q : Nat => s.heap.size ≤ q) q := fun _ h => h
  have hbA : ¬ (fun q : Nat => s.heap.size ≤ q) b := Nat.not_le.mpr hbl
  obtain ⟨r, si', sa', ti', ta', e1, e2, R⟩ := e_tree R (xs (i + 1))
  refine lv_aload_n C0.1 C0.2.1 dL_law_533 rfl (lv_at hl 2 rfl) ?_
  refine rArg C0 hX hbl hbA hS hl 1 (by omega) hL rfl dL_law_534 dL_law_535 dL_law_536 dL_law_537 dL_law_538 ?_
  refine kcX (si' := si') (sa' := sa') (As := [.int (xs (i + 1))]) (rest := []) C0 hA hP hD hS (c_X5_tree l D cA ad si sa (xs (i + 1)) (r, si', sa') e1) lk_X5_tree q400 q401 q399 rfl hl.1 rfl rfl (Nat.le_of_ble_eq_true rfl) ⟨Nat.le_of_ble_eq_true rfl, Nat.le_of_ble_eq_true rfl⟩ ⟨Nat.le_of_ble_eq_true rfl, Nat.le_of_ble_eq_true rfl⟩ dL_law_539 (fun H locs hP hD hS => ?_)
  refine lv_aload_n C0.1 C0.2.1 dL_law_542 rfl (lv_at hl 1 rfl) ?_
  refine rArg C0 hX hbl hbA hS hl 1 (by omega) hL rfl dL_law_543 dL_law_544 dL_law_545 dL_law_546 dL_law_547 ?_
  refine kcM (ti' := ti') (ta' := ta') (As := [.int (xs (i + 1))]) (rest := [.int r]) C0 hA hP hD hS (c_X6_tree l D cA bd ti ta (xs (i + 1)) (r, ti', ta') e2) lk_X6_tree q825 q826 q824 rfl hl.1 rfl rfl (Nat.le_of_ble_eq_true rfl) ⟨Nat.le_of_ble_eq_true rfl, Nat.le_of_ble_eq_true rfl⟩ ⟨Nat.le_of_ble_eq_true rfl, Nat.le_of_ble_eq_true rfl⟩ dL_law_548 (fun H locs hP hD hS => ?_)
  refine lv_icmp_eq (tgt := 1069) C0.1 C0.2.1 dL_law_551 (by decide) (fun _ => ?_) (fun z => absurd rfl z)
  exact hN _ _ _ _ R _ _ _ hP hD hS hl
set_option maxHeartbeats 4000000 in
set_option maxRecDepth 100000 in
theorem law_odds (hL : L ≤ 384) (C0 : Cx p s m #[Value.ref b] c RL cL_law 4 D cA) (hX : va_X b L xs s s.heap) (hbl : b < s.heap.size) (hi : i + 6 ≤ L) (hN : LN p l e s m b below meth c Q D cA ad bd i 1069) : LN p l e s m b below meth c Q D cA ad bd i 556 := by
  intro si sa ti ta R H locs ls hP hD hS hl
  have hA : ∀ q : Nat, s.heap.size ≤ q → (fun q : Nat => s.heap.size ≤ q) q := fun _ h => h
  have hbA : ¬ (fun q : Nat => s.heap.size ≤ q) b := Nat.not_le.mpr hbl
  obtain ⟨r, e1, e2⟩ := e_odds R (xs (i + 1)) (xs (i + 2)) (xs (i + 3))
  refine lv_aload_n C0.1 C0.2.1 dL_law_556 rfl (lv_at hl 2 rfl) ?_
  refine rArg C0 hX hbl hbA hS hl 1 (by omega) hL rfl dL_law_557 dL_law_558 dL_law_559 dL_law_560 dL_law_561 ?_
  refine rArg C0 hX hbl hbA hS hl 2 (by omega) hL rfl dL_law_562 dL_law_563 dL_law_564 dL_law_565 dL_law_566 ?_
  refine rArg C0 hX hbl hbA hS hl 3 (by omega) hL rfl dL_law_567 dL_law_568 dL_law_569 dL_law_570 dL_law_571 ?_
  refine kcX (si' := si) (sa' := sa) (As := [.int (xs (i + 1)), .int (xs (i + 2)), .int (xs (i + 3))]) (rest := []) C0 hA hP hD hS (c_X5_odds l D cA ad si sa (xs (i + 1)) (xs (i + 2)) (xs (i + 3)) r e1) lk_X5_odds q431 q432 q430 rfl hl.1 rfl rfl (Nat.le_of_ble_eq_true rfl) ⟨Nat.le_of_ble_eq_true rfl, Nat.le_of_ble_eq_true rfl⟩ ⟨Nat.le_of_ble_eq_true rfl, Nat.le_of_ble_eq_true rfl⟩ dL_law_572 (fun H locs hP hD hS => ?_)
  refine lv_aload_n C0.1 C0.2.1 dL_law_575 rfl (lv_at hl 1 rfl) ?_
  refine rArg C0 hX hbl hbA hS hl 1 (by omega) hL rfl dL_law_576 dL_law_577 dL_law_578 dL_law_579 dL_law_580 ?_
  refine rArg C0 hX hbl hbA hS hl 2 (by omega) hL rfl dL_law_581 dL_law_582 dL_law_583 dL_law_584 dL_law_585 ?_
  refine rArg C0 hX hbl hbA hS hl 3 (by omega) hL rfl dL_law_586 dL_law_587 dL_law_588 dL_law_589 dL_law_590 ?_
  refine kcM (ti' := ti) (ta' := ta) (As := [.int (xs (i + 1)), .int (xs (i + 2)), .int (xs (i + 3))]) (rest := [.long r]) C0 hA hP hD hS (c_X6_odds l D cA bd ti ta (xs (i + 1)) (xs (i + 2)) (xs (i + 3)) r e2) lk_X6_odds q833 q834 q832 rfl hl.1 rfl rfl (Nat.le_of_ble_eq_true rfl) ⟨Nat.le_of_ble_eq_true rfl, Nat.le_of_ble_eq_true rfl⟩ ⟨Nat.le_of_ble_eq_true rfl, Nat.le_of_ble_eq_true rfl⟩ dL_law_591 (fun H locs hP hD hS => ?_)
  refine W.lcmp C0.1 C0.2.1 dL_law_594 ?_
  refine lv_if_eq (tgt := 1069) C0.1 C0.2.1 dL_law_595 (by decide) (fun _ => ?_) (fun z => absurd (lcmp_eq.mpr rfl) z)
  exact hN _ _ _ _ R _ _ _ hP hD hS hl
set_option maxHeartbeats 4000000 in
set_option maxRecDepth 100000 in
theorem law_reading (hL : L ≤ 384) (C0 : Cx p s m #[Value.ref b] c RL cL_law 4 D cA) (hX : va_X b L xs s s.heap) (hbl : b < s.heap.size) (hi : i + 6 ≤ L) (hN : LN p l e s m b below meth c Q D cA ad bd i 1069) : LN p l e s m b below meth c Q D cA ad bd i 600 := by
  intro si sa ti ta R H locs ls hP hD hS hl
  have hA : ∀ q : Nat, s.heap.size ≤ q → (fun q : Nat => s.heap.size ≤ q) q := fun _ h => h
  have hbA : ¬ (fun q : Nat => s.heap.size ≤ q) b := Nat.not_le.mpr hbl
  obtain ⟨r, si', sa', ti', ta', e1, e2, R⟩ := e_reading R (xs (i + 1)) (xs (i + 2))
  refine lv_aload_n C0.1 C0.2.1 dL_law_600 rfl (lv_at hl 2 rfl) ?_
  refine rArg C0 hX hbl hbA hS hl 1 (by omega) hL rfl dL_law_601 dL_law_602 dL_law_603 dL_law_604 dL_law_605 ?_
  refine rArg C0 hX hbl hbA hS hl 2 (by omega) hL rfl dL_law_606 dL_law_607 dL_law_608 dL_law_609 dL_law_610 ?_
  refine kcX (si' := si') (sa' := sa') (As := [.int (xs (i + 1)), .int (xs (i + 2))]) (rest := []) C0 hA hP hD hS (c_X5_reading l D cA ad si sa (xs (i + 1)) (xs (i + 2)) (r, si', sa') e1) lk_X5_reading q443 q444 q442 rfl hl.1 rfl rfl (Nat.le_of_ble_eq_true rfl) ⟨Nat.le_of_ble_eq_true rfl, Nat.le_of_ble_eq_true rfl⟩ ⟨Nat.le_of_ble_eq_true rfl, Nat.le_of_ble_eq_true rfl⟩ dL_law_611 (fun H locs hP hD hS => ?_)
  refine lv_aload_n C0.1 C0.2.1 dL_law_614 rfl (lv_at hl 1 rfl) ?_
  refine rArg C0 hX hbl hbA hS hl 1 (by omega) hL rfl dL_law_615 dL_law_616 dL_law_617 dL_law_618 dL_law_619 ?_
  refine rArg C0 hX hbl hbA hS hl 2 (by omega) hL rfl dL_law_620 dL_law_621 dL_law_622 dL_law_623 dL_law_624 ?_
  refine kcM (ti' := ti') (ta' := ta') (As := [.int (xs (i + 1)), .int (xs (i + 2))]) (rest := [.int r]) C0 hA hP hD hS (c_X6_reading l D cA bd ti ta (xs (i + 1)) (xs (i + 2)) (r, ti', ta') e2) lk_X6_reading q845 q846 q844 rfl hl.1 rfl rfl (Nat.le_of_ble_eq_true rfl) ⟨Nat.le_of_ble_eq_true rfl, Nat.le_of_ble_eq_true rfl⟩ ⟨Nat.le_of_ble_eq_true rfl, Nat.le_of_ble_eq_true rfl⟩ dL_law_625 (fun H locs hP hD hS => ?_)
  refine lv_icmp_eq (tgt := 1069) C0.1 C0.2.1 dL_law_628 (by decide) (fun _ => ?_) (fun z => absurd rfl z)
  exact hN _ _ _ _ R _ _ _ hP hD hS hl
set_option maxHeartbeats 4000000 in
set_option maxRecDepth 100000 in
theorem law_back (hL : L ≤ 384) (C0 : Cx p s m #[Value.ref b] c RL cL_law 4 D cA) (hX : va_X b L xs s s.heap) (hbl : b < s.heap.size) (hi : i + 6 ≤ L) (hN : LN p l e s m b below meth c Q D cA ad bd i 1069) : LN p l e s m b below meth c Q D cA ad bd i 633 := by
  intro si sa ti ta R H locs ls hP hD hS hl
  have hA : ∀ q : Nat, s.heap.size ≤ q → (fun q : Nat => s.heap.size ≤ q) q := fun _ h => h
  have hbA : ¬ (fun q : Nat => s.heap.size ≤ q) b := Nat.not_le.mpr hbl
  obtain ⟨r, si', sa', ti', ta', e1, e2, R⟩ := e_back R (xs (i + 1))
  refine lv_aload_n C0.1 C0.2.1 dL_law_633 rfl (lv_at hl 2 rfl) ?_
  refine rArg C0 hX hbl hbA hS hl 1 (by omega) hL rfl dL_law_634 dL_law_635 dL_law_636 dL_law_637 dL_law_638 ?_
  refine kcX (si' := si') (sa' := sa') (As := [.int (xs (i + 1))]) (rest := []) C0 hA hP hD hS (c_X5_back l D cA ad si sa (xs (i + 1)) (r, si', sa') e1) lk_X5_back q451 q452 q450 rfl hl.1 rfl rfl (Nat.le_of_ble_eq_true rfl) ⟨Nat.le_of_ble_eq_true rfl, Nat.le_of_ble_eq_true rfl⟩ ⟨Nat.le_of_ble_eq_true rfl, Nat.le_of_ble_eq_true rfl⟩ dL_law_639 (fun H locs hP hD hS => ?_)
  refine lv_aload_n C0.1 C0.2.1 dL_law_642 rfl (lv_at hl 1 rfl) ?_
  refine rArg C0 hX hbl hbA hS hl 1 (by omega) hL rfl dL_law_643 dL_law_644 dL_law_645 dL_law_646 dL_law_647 ?_
  refine kcM (ti' := ti') (ta' := ta') (As := [.int (xs (i + 1))]) (rest := [.int r]) C0 hA hP hD hS (c_X6_back l D cA bd ti ta (xs (i + 1)) (r, ti', ta') e2) lk_X6_back q850 q851 q849 rfl hl.1 rfl rfl (Nat.le_of_ble_eq_true rfl) ⟨Nat.le_of_ble_eq_true rfl, Nat.le_of_ble_eq_true rfl⟩ ⟨Nat.le_of_ble_eq_true rfl, Nat.le_of_ble_eq_true rfl⟩ dL_law_648 (fun H locs hP hD hS => ?_)
  refine lv_icmp_eq (tgt := 1069) C0.1 C0.2.1 dL_law_651 (by decide) (fun _ => ?_) (fun z => absurd rfl z)
  exact hN _ _ _ _ R _ _ _ hP hD hS hl
set_option maxHeartbeats 4000000 in
set_option maxRecDepth 100000 in
theorem law_counts (hL : L ≤ 384) (C0 : Cx p s m #[Value.ref b] c RL cL_law 4 D cA) (hX : va_X b L xs s s.heap) (hbl : b < s.heap.size) (hi : i + 6 ≤ L) (hN : LN p l e s m b below meth c Q D cA ad bd i 1069) : LN p l e s m b below meth c Q D cA ad bd i 656 := by
  intro si sa ti ta R H locs ls hP hD hS hl
  have hA : ∀ q : Nat, s.heap.size ≤ q → (fun q : Nat => s.heap.size ≤ q) q := fun _ h => h
  have hbA : ¬ (fun q : Nat => s.heap.size ≤ q) b := Nat.not_le.mpr hbl
  obtain ⟨r, ti', ta', e1, e2, R⟩ := e_counts R (xs (i + 1))
  refine lv_aload_n C0.1 C0.2.1 dL_law_656 rfl (lv_at hl 2 rfl) ?_
  refine rArg C0 hX hbl hbA hS hl 1 (by omega) hL rfl dL_law_657 dL_law_658 dL_law_659 dL_law_660 dL_law_661 ?_
  refine kcX (si' := si) (sa' := sa) (As := [.int (xs (i + 1))]) (rest := []) C0 hA hP hD hS (c_X5_counts l D cA ad si sa (xs (i + 1)) r e1) lk_X5_counts q455 q456 q454 rfl hl.1 rfl rfl (Nat.le_of_ble_eq_true rfl) ⟨Nat.le_of_ble_eq_true rfl, Nat.le_of_ble_eq_true rfl⟩ ⟨Nat.le_of_ble_eq_true rfl, Nat.le_of_ble_eq_true rfl⟩ dL_law_662 (fun H locs hP hD hS => ?_)
  refine lv_aload_n C0.1 C0.2.1 dL_law_665 rfl (lv_at hl 1 rfl) ?_
  refine rArg C0 hX hbl hbA hS hl 1 (by omega) hL rfl dL_law_666 dL_law_667 dL_law_668 dL_law_669 dL_law_670 ?_
  refine kcM (ti' := ti') (ta' := ta') (As := [.int (xs (i + 1))]) (rest := [.int r]) C0 hA hP hD hS (c_X6_counts l D cA bd ti ta (xs (i + 1)) (r, ti', ta') e2) lk_X6_counts q854 q855 q853 rfl hl.1 rfl rfl (Nat.le_of_ble_eq_true rfl) ⟨Nat.le_of_ble_eq_true rfl, Nat.le_of_ble_eq_true rfl⟩ ⟨Nat.le_of_ble_eq_true rfl, Nat.le_of_ble_eq_true rfl⟩ dL_law_671 (fun H locs hP hD hS => ?_)
  refine lv_icmp_eq (tgt := 1069) C0.1 C0.2.1 dL_law_674 (by decide) (fun _ => ?_) (fun z => absurd rfl z)
  exact hN _ _ _ _ R _ _ _ hP hD hS hl
set_option maxHeartbeats 4000000 in
set_option maxRecDepth 100000 in
theorem law_kinds (hL : L ≤ 384) (C0 : Cx p s m #[Value.ref b] c RL cL_law 4 D cA) (hX : va_X b L xs s s.heap) (hbl : b < s.heap.size) (hi : i + 6 ≤ L) (hN : LN p l e s m b below meth c Q D cA ad bd i 1069) : LN p l e s m b below meth c Q D cA ad bd i 679 := by
  intro si sa ti ta R H locs ls hP hD hS hl
  have hA : ∀ q : Nat, s.heap.size ≤ q → (fun q : Nat => s.heap.size ≤ q) q := fun _ h => h
  have hbA : ¬ (fun q : Nat => s.heap.size ≤ q) b := Nat.not_le.mpr hbl
  obtain ⟨r, ti', ta', e1, e2, R⟩ := e_kinds R (xs (i + 1))
  refine lv_aload_n C0.1 C0.2.1 dL_law_679 rfl (lv_at hl 2 rfl) ?_
  refine rArg C0 hX hbl hbA hS hl 1 (by omega) hL rfl dL_law_680 dL_law_681 dL_law_682 dL_law_683 dL_law_684 ?_
  refine kcX (si' := si) (sa' := sa) (As := [.int (xs (i + 1))]) (rest := []) C0 hA hP hD hS (c_X5_kinds l D cA ad si sa (xs (i + 1)) r e1) lk_X5_kinds q464 q465 q463 rfl hl.1 rfl rfl (Nat.le_of_ble_eq_true rfl) ⟨Nat.le_of_ble_eq_true rfl, Nat.le_of_ble_eq_true rfl⟩ ⟨Nat.le_of_ble_eq_true rfl, Nat.le_of_ble_eq_true rfl⟩ dL_law_685 (fun H locs hP hD hS => ?_)
  refine lv_aload_n C0.1 C0.2.1 dL_law_688 rfl (lv_at hl 1 rfl) ?_
  refine rArg C0 hX hbl hbA hS hl 1 (by omega) hL rfl dL_law_689 dL_law_690 dL_law_691 dL_law_692 dL_law_693 ?_
  refine kcM (ti' := ti') (ta' := ta') (As := [.int (xs (i + 1))]) (rest := [.int r]) C0 hA hP hD hS (c_X6_kinds l D cA bd ti ta (xs (i + 1)) (r, ti', ta') e2) lk_X6_kinds q862 q863 q861 rfl hl.1 rfl rfl (Nat.le_of_ble_eq_true rfl) ⟨Nat.le_of_ble_eq_true rfl, Nat.le_of_ble_eq_true rfl⟩ ⟨Nat.le_of_ble_eq_true rfl, Nat.le_of_ble_eq_true rfl⟩ dL_law_694 (fun H locs hP hD hS => ?_)
  refine lv_icmp_eq (tgt := 1069) C0.1 C0.2.1 dL_law_697 (by decide) (fun _ => ?_) (fun z => absurd rfl z)
  exact hN _ _ _ _ R _ _ _ hP hD hS hl
set_option maxHeartbeats 4000000 in
set_option maxRecDepth 100000 in
theorem law_speeds (hL : L ≤ 384) (C0 : Cx p s m #[Value.ref b] c RL cL_law 4 D cA) (hX : va_X b L xs s s.heap) (hbl : b < s.heap.size) (hi : i + 6 ≤ L) (hN : LN p l e s m b below meth c Q D cA ad bd i 1069) : LN p l e s m b below meth c Q D cA ad bd i 702 := by
  intro si sa ti ta R H locs ls hP hD hS hl
  have hA : ∀ q : Nat, s.heap.size ≤ q → (fun q : Nat => s.heap.size ≤ q) q := fun _ h => h
  have hbA : ¬ (fun q : Nat => s.heap.size ≤ q) b := Nat.not_le.mpr hbl
  obtain ⟨r, ti', ta', e1, e2, R⟩ := e_speeds R (xs (i + 1))
  refine lv_aload_n C0.1 C0.2.1 dL_law_702 rfl (lv_at hl 2 rfl) ?_
  refine rArg C0 hX hbl hbA hS hl 1 (by omega) hL rfl dL_law_703 dL_law_704 dL_law_705 dL_law_706 dL_law_707 ?_
  refine kcX (si' := si) (sa' := sa) (As := [.int (xs (i + 1))]) (rest := []) C0 hA hP hD hS (c_X5_speeds l D cA ad si sa (xs (i + 1)) r e1) lk_X5_speeds q468 q469 q467 rfl hl.1 rfl rfl (Nat.le_of_ble_eq_true rfl) ⟨Nat.le_of_ble_eq_true rfl, Nat.le_of_ble_eq_true rfl⟩ ⟨Nat.le_of_ble_eq_true rfl, Nat.le_of_ble_eq_true rfl⟩ dL_law_708 (fun H locs hP hD hS => ?_)
  refine lv_aload_n C0.1 C0.2.1 dL_law_711 rfl (lv_at hl 1 rfl) ?_
  refine rArg C0 hX hbl hbA hS hl 1 (by omega) hL rfl dL_law_712 dL_law_713 dL_law_714 dL_law_715 dL_law_716 ?_
  refine kcM (ti' := ti') (ta' := ta') (As := [.int (xs (i + 1))]) (rest := [.int r]) C0 hA hP hD hS (c_X6_speeds l D cA bd ti ta (xs (i + 1)) (r, ti', ta') e2) lk_X6_speeds q866 q867 q865 rfl hl.1 rfl rfl (Nat.le_of_ble_eq_true rfl) ⟨Nat.le_of_ble_eq_true rfl, Nat.le_of_ble_eq_true rfl⟩ ⟨Nat.le_of_ble_eq_true rfl, Nat.le_of_ble_eq_true rfl⟩ dL_law_717 (fun H locs hP hD hS => ?_)
  refine lv_icmp_eq (tgt := 1069) C0.1 C0.2.1 dL_law_720 (by decide) (fun _ => ?_) (fun z => absurd rfl z)
  exact hN _ _ _ _ R _ _ _ hP hD hS hl
set_option maxHeartbeats 4000000 in
set_option maxRecDepth 100000 in
theorem law_sheet (hL : L ≤ 384) (C0 : Cx p s m #[Value.ref b] c RL cL_law 4 D cA) (hX : va_X b L xs s s.heap) (hbl : b < s.heap.size) (hi : i + 6 ≤ L) (hN : LN p l e s m b below meth c Q D cA ad bd i 1069) : LN p l e s m b below meth c Q D cA ad bd i 725 := by
  intro si sa ti ta R H locs ls hP hD hS hl
  have hA : ∀ q : Nat, s.heap.size ≤ q → (fun q : Nat => s.heap.size ≤ q) q := fun _ h => h
  have hbA : ¬ (fun q : Nat => s.heap.size ≤ q) b := Nat.not_le.mpr hbl
  obtain ⟨r, si', sa', ti', ta', e1, e2, R⟩ := e_sheet R (xs (i + 1)) (xs (i + 2)) (xs (i + 3))
  refine lv_aload_n C0.1 C0.2.1 dL_law_725 rfl (lv_at hl 2 rfl) ?_
  refine rArg C0 hX hbl hbA hS hl 1 (by omega) hL rfl dL_law_726 dL_law_727 dL_law_728 dL_law_729 dL_law_730 ?_
  refine rArg C0 hX hbl hbA hS hl 2 (by omega) hL rfl dL_law_731 dL_law_732 dL_law_733 dL_law_734 dL_law_735 ?_
  refine rArg C0 hX hbl hbA hS hl 3 (by omega) hL rfl dL_law_736 dL_law_737 dL_law_738 dL_law_739 dL_law_740 ?_
  refine kcX (si' := si') (sa' := sa') (As := [.int (xs (i + 1)), .int (xs (i + 2)), .int (xs (i + 3))]) (rest := []) C0 hA hP hD hS (c_X5_sheet l D cA ad si sa (xs (i + 1)) (xs (i + 2)) (xs (i + 3)) (r, si', sa') e1) lk_X5_sheet q472 q473 q471 rfl hl.1 rfl rfl (Nat.le_of_ble_eq_true rfl) ⟨Nat.le_of_ble_eq_true rfl, Nat.le_of_ble_eq_true rfl⟩ ⟨Nat.le_of_ble_eq_true rfl, Nat.le_of_ble_eq_true rfl⟩ dL_law_741 (fun H locs hP hD hS => ?_)
  refine lv_aload_n C0.1 C0.2.1 dL_law_744 rfl (lv_at hl 1 rfl) ?_
  refine rArg C0 hX hbl hbA hS hl 1 (by omega) hL rfl dL_law_745 dL_law_746 dL_law_747 dL_law_748 dL_law_749 ?_
  refine rArg C0 hX hbl hbA hS hl 2 (by omega) hL rfl dL_law_750 dL_law_751 dL_law_752 dL_law_753 dL_law_754 ?_
  refine rArg C0 hX hbl hbA hS hl 3 (by omega) hL rfl dL_law_755 dL_law_756 dL_law_757 dL_law_758 dL_law_759 ?_
  refine kcM (ti' := ti') (ta' := ta') (As := [.int (xs (i + 1)), .int (xs (i + 2)), .int (xs (i + 3))]) (rest := [.int r]) C0 hA hP hD hS (c_X6_sheet l D cA bd ti ta (xs (i + 1)) (xs (i + 2)) (xs (i + 3)) (r, ti', ta') e2) lk_X6_sheet q870 q871 q869 rfl hl.1 rfl rfl (Nat.le_of_ble_eq_true rfl) ⟨Nat.le_of_ble_eq_true rfl, Nat.le_of_ble_eq_true rfl⟩ ⟨Nat.le_of_ble_eq_true rfl, Nat.le_of_ble_eq_true rfl⟩ dL_law_760 (fun H locs hP hD hS => ?_)
  refine lv_icmp_eq (tgt := 1069) C0.1 C0.2.1 dL_law_763 (by decide) (fun _ => ?_) (fun z => absurd rfl z)
  exact hN _ _ _ _ R _ _ _ hP hD hS hl
set_option maxHeartbeats 4000000 in
set_option maxRecDepth 100000 in
theorem law_lose (hL : L ≤ 384) (C0 : Cx p s m #[Value.ref b] c RL cL_law 4 D cA) (hX : va_X b L xs s s.heap) (hbl : b < s.heap.size) (hi : i + 6 ≤ L) (hN : LN p l e s m b below meth c Q D cA ad bd i 1069) : LN p l e s m b below meth c Q D cA ad bd i 768 := by
  intro si sa ti ta R H locs ls hP hD hS hl
  have hA : ∀ q : Nat, s.heap.size ≤ q → (fun q : Nat => s.heap.size ≤ q) q := fun _ h => h
  have hbA : ¬ (fun q : Nat => s.heap.size ≤ q) b := Nat.not_le.mpr hbl
  obtain ⟨r, si', sa', ti', ta', e1, e2, R⟩ := e_lose R (xs (i + 1))
  refine lv_aload_n C0.1 C0.2.1 dL_law_768 rfl (lv_at hl 2 rfl) ?_
  refine rArg C0 hX hbl hbA hS hl 1 (by omega) hL rfl dL_law_769 dL_law_770 dL_law_771 dL_law_772 dL_law_773 ?_
  refine kcX (si' := si') (sa' := sa') (As := [.int (xs (i + 1))]) (rest := []) C0 hA hP hD hS (c_X5_lose l D cA ad si sa (xs (i + 1)) (r, si', sa') e1) lk_X5_lose q480 q481 q479 rfl hl.1 rfl rfl (Nat.le_of_ble_eq_true rfl) ⟨Nat.le_of_ble_eq_true rfl, Nat.le_of_ble_eq_true rfl⟩ ⟨Nat.le_of_ble_eq_true rfl, Nat.le_of_ble_eq_true rfl⟩ dL_law_774 (fun H locs hP hD hS => ?_)
  refine lv_aload_n C0.1 C0.2.1 dL_law_777 rfl (lv_at hl 1 rfl) ?_
  refine rArg C0 hX hbl hbA hS hl 1 (by omega) hL rfl dL_law_778 dL_law_779 dL_law_780 dL_law_781 dL_law_782 ?_
  refine kcM (ti' := ti') (ta' := ta') (As := [.int (xs (i + 1))]) (rest := [.int r]) C0 hA hP hD hS (c_X6_lose l D cA bd ti ta (xs (i + 1)) (r, ti', ta') e2) lk_X6_lose q874 q875 q873 rfl hl.1 rfl rfl (Nat.le_of_ble_eq_true rfl) ⟨Nat.le_of_ble_eq_true rfl, Nat.le_of_ble_eq_true rfl⟩ ⟨Nat.le_of_ble_eq_true rfl, Nat.le_of_ble_eq_true rfl⟩ dL_law_783 (fun H locs hP hD hS => ?_)
  refine lv_icmp_eq (tgt := 1069) C0.1 C0.2.1 dL_law_786 (by decide) (fun _ => ?_) (fun z => absurd rfl z)
  exact hN _ _ _ _ R _ _ _ hP hD hS hl
set_option maxHeartbeats 4000000 in
set_option maxRecDepth 100000 in
theorem law_put (hL : L ≤ 384) (C0 : Cx p s m #[Value.ref b] c RL cL_law 4 D cA) (hX : va_X b L xs s s.heap) (hbl : b < s.heap.size) (hi : i + 6 ≤ L) (hN : LN p l e s m b below meth c Q D cA ad bd i 1069) : LN p l e s m b below meth c Q D cA ad bd i 791 := by
  intro si sa ti ta R H locs ls hP hD hS hl
  have hA : ∀ q : Nat, s.heap.size ≤ q → (fun q : Nat => s.heap.size ≤ q) q := fun _ h => h
  have hbA : ¬ (fun q : Nat => s.heap.size ≤ q) b := Nat.not_le.mpr hbl
  obtain ⟨r, si', sa', ti', ta', e1, e2, R⟩ := e_put R (xs (i + 1)) (xs (i + 2)) (xs (i + 3))
  refine lv_aload_n C0.1 C0.2.1 dL_law_791 rfl (lv_at hl 2 rfl) ?_
  refine rArg C0 hX hbl hbA hS hl 1 (by omega) hL rfl dL_law_792 dL_law_793 dL_law_794 dL_law_795 dL_law_796 ?_
  refine rArg C0 hX hbl hbA hS hl 2 (by omega) hL rfl dL_law_797 dL_law_798 dL_law_799 dL_law_800 dL_law_801 ?_
  refine rArg C0 hX hbl hbA hS hl 3 (by omega) hL rfl dL_law_802 dL_law_803 dL_law_804 dL_law_805 dL_law_806 ?_
  refine kcX (si' := si') (sa' := sa') (As := [.int (xs (i + 1)), .int (xs (i + 2)), .int (xs (i + 3))]) (rest := []) C0 hA hP hD hS (c_X5_put l D cA ad si sa (xs (i + 1)) (xs (i + 2)) (xs (i + 3)) (r, si', sa') e1) lk_X5_put q488 q489 q487 rfl hl.1 rfl rfl (Nat.le_of_ble_eq_true rfl) ⟨Nat.le_of_ble_eq_true rfl, Nat.le_of_ble_eq_true rfl⟩ ⟨Nat.le_of_ble_eq_true rfl, Nat.le_of_ble_eq_true rfl⟩ dL_law_807 (fun H locs hP hD hS => ?_)
  refine lv_aload_n C0.1 C0.2.1 dL_law_810 rfl (lv_at hl 1 rfl) ?_
  refine rArg C0 hX hbl hbA hS hl 1 (by omega) hL rfl dL_law_811 dL_law_812 dL_law_813 dL_law_814 dL_law_815 ?_
  refine rArg C0 hX hbl hbA hS hl 2 (by omega) hL rfl dL_law_816 dL_law_817 dL_law_818 dL_law_819 dL_law_820 ?_
  refine rArg C0 hX hbl hbA hS hl 3 (by omega) hL rfl dL_law_821 dL_law_822 dL_law_823 dL_law_824 dL_law_825 ?_
  refine kcM (ti' := ti') (ta' := ta') (As := [.int (xs (i + 1)), .int (xs (i + 2)), .int (xs (i + 3))]) (rest := [.int r]) C0 hA hP hD hS (c_X6_put l D cA bd ti ta (xs (i + 1)) (xs (i + 2)) (xs (i + 3)) (r, ti', ta') e2) lk_X6_put q878 q879 q877 rfl hl.1 rfl rfl (Nat.le_of_ble_eq_true rfl) ⟨Nat.le_of_ble_eq_true rfl, Nat.le_of_ble_eq_true rfl⟩ ⟨Nat.le_of_ble_eq_true rfl, Nat.le_of_ble_eq_true rfl⟩ dL_law_826 (fun H locs hP hD hS => ?_)
  refine lv_icmp_eq (tgt := 1069) C0.1 C0.2.1 dL_law_829 (by decide) (fun _ => ?_) (fun z => absurd rfl z)
  exact hN _ _ _ _ R _ _ _ hP hD hS hl
set_option maxHeartbeats 4000000 in
set_option maxRecDepth 100000 in
theorem law_cell (hL : L ≤ 384) (C0 : Cx p s m #[Value.ref b] c RL cL_law 4 D cA) (hX : va_X b L xs s s.heap) (hbl : b < s.heap.size) (hi : i + 6 ≤ L) (hN : LN p l e s m b below meth c Q D cA ad bd i 1069) : LN p l e s m b below meth c Q D cA ad bd i 834 := by
  intro si sa ti ta R H locs ls hP hD hS hl
  have hA : ∀ q : Nat, s.heap.size ≤ q → (fun q : Nat => s.heap.size ≤ q) q := fun _ h => h
  have hbA : ¬ (fun q : Nat => s.heap.size ≤ q) b := Nat.not_le.mpr hbl
  obtain ⟨r, si', sa', ti', ta', e1, e2, R⟩ := e_cell R (xs (i + 1)) (xs (i + 2)) (xs (i + 3))
  refine lv_aload_n C0.1 C0.2.1 dL_law_834 rfl (lv_at hl 2 rfl) ?_
  refine rArg C0 hX hbl hbA hS hl 1 (by omega) hL rfl dL_law_835 dL_law_836 dL_law_837 dL_law_838 dL_law_839 ?_
  refine rArg C0 hX hbl hbA hS hl 2 (by omega) hL rfl dL_law_840 dL_law_841 dL_law_842 dL_law_843 dL_law_844 ?_
  refine rArg C0 hX hbl hbA hS hl 3 (by omega) hL rfl dL_law_845 dL_law_846 dL_law_847 dL_law_848 dL_law_849 ?_
  refine kcX (si' := si') (sa' := sa') (As := [.int (xs (i + 1)), .int (xs (i + 2)), .int (xs (i + 3))]) (rest := []) C0 hA hP hD hS (c_X5_cell l D cA ad si sa (xs (i + 1)) (xs (i + 2)) (xs (i + 3)) (r, si', sa') e1) lk_X5_cell q503 q504 q502 rfl hl.1 rfl rfl (Nat.le_of_ble_eq_true rfl) ⟨Nat.le_of_ble_eq_true rfl, Nat.le_of_ble_eq_true rfl⟩ ⟨Nat.le_of_ble_eq_true rfl, Nat.le_of_ble_eq_true rfl⟩ dL_law_850 (fun H locs hP hD hS => ?_)
  refine lv_aload_n C0.1 C0.2.1 dL_law_853 rfl (lv_at hl 1 rfl) ?_
  refine rArg C0 hX hbl hbA hS hl 1 (by omega) hL rfl dL_law_854 dL_law_855 dL_law_856 dL_law_857 dL_law_858 ?_
  refine rArg C0 hX hbl hbA hS hl 2 (by omega) hL rfl dL_law_859 dL_law_860 dL_law_861 dL_law_862 dL_law_863 ?_
  refine rArg C0 hX hbl hbA hS hl 3 (by omega) hL rfl dL_law_864 dL_law_865 dL_law_866 dL_law_867 dL_law_868 ?_
  refine kcM (ti' := ti') (ta' := ta') (As := [.int (xs (i + 1)), .int (xs (i + 2)), .int (xs (i + 3))]) (rest := [.long r]) C0 hA hP hD hS (c_X6_cell l D cA bd ti ta (xs (i + 1)) (xs (i + 2)) (xs (i + 3)) (r, ti', ta') e2) lk_X6_cell q886 q887 q885 rfl hl.1 rfl rfl (Nat.le_of_ble_eq_true rfl) ⟨Nat.le_of_ble_eq_true rfl, Nat.le_of_ble_eq_true rfl⟩ ⟨Nat.le_of_ble_eq_true rfl, Nat.le_of_ble_eq_true rfl⟩ dL_law_869 (fun H locs hP hD hS => ?_)
  refine W.lcmp C0.1 C0.2.1 dL_law_872 ?_
  refine lv_if_eq (tgt := 1069) C0.1 C0.2.1 dL_law_873 (by decide) (fun _ => ?_) (fun z => absurd (lcmp_eq.mpr rfl) z)
  exact hN _ _ _ _ R _ _ _ hP hD hS hl
set_option maxHeartbeats 4000000 in
set_option maxRecDepth 100000 in
theorem law_copy (hL : L ≤ 384) (C0 : Cx p s m #[Value.ref b] c RL cL_law 4 D cA) (hX : va_X b L xs s s.heap) (hbl : b < s.heap.size) (hi : i + 6 ≤ L) (hN : LN p l e s m b below meth c Q D cA ad bd i 1069) : LN p l e s m b below meth c Q D cA ad bd i 878 := by
  intro si sa ti ta R H locs ls hP hD hS hl
  have hA : ∀ q : Nat, s.heap.size ≤ q → (fun q : Nat => s.heap.size ≤ q) q := fun _ h => h
  have hbA : ¬ (fun q : Nat => s.heap.size ≤ q) b := Nat.not_le.mpr hbl
  obtain ⟨r, si', sa', ti', ta', e1, e2, R⟩ := e_copy R (xs (i + 1)) (xs (i + 2)) (xs (i + 3)) (xs (i + 4)) (xs (i + 5))
  refine lv_aload_n C0.1 C0.2.1 dL_law_878 rfl (lv_at hl 2 rfl) ?_
  refine rArg C0 hX hbl hbA hS hl 1 (by omega) hL rfl dL_law_879 dL_law_880 dL_law_881 dL_law_882 dL_law_883 ?_
  refine rArg C0 hX hbl hbA hS hl 2 (by omega) hL rfl dL_law_884 dL_law_885 dL_law_886 dL_law_887 dL_law_888 ?_
  refine rArg C0 hX hbl hbA hS hl 3 (by omega) hL rfl dL_law_889 dL_law_890 dL_law_891 dL_law_892 dL_law_893 ?_
  refine rArg C0 hX hbl hbA hS hl 4 (by omega) hL rfl dL_law_894 dL_law_895 dL_law_896 dL_law_897 dL_law_898 ?_
  refine rArg C0 hX hbl hbA hS hl 5 (by omega) hL rfl dL_law_899 dL_law_900 dL_law_901 dL_law_902 dL_law_903 ?_
  refine kcX (si' := si') (sa' := sa') (As := [.int (xs (i + 1)), .int (xs (i + 2)), .int (xs (i + 3)), .int (xs (i + 4)), .int (xs (i + 5))]) (rest := []) C0 hA hP hD hS (c_X5_copy l D cA ad si sa (xs (i + 1)) (xs (i + 2)) (xs (i + 3)) (xs (i + 4)) (xs (i + 5)) (r, si', sa') e1) lk_X5_copy q511 q512 q510 rfl hl.1 rfl rfl (Nat.le_of_ble_eq_true rfl) ⟨Nat.le_of_ble_eq_true rfl, Nat.le_of_ble_eq_true rfl⟩ ⟨Nat.le_of_ble_eq_true rfl, Nat.le_of_ble_eq_true rfl⟩ dL_law_904 (fun H locs hP hD hS => ?_)
  refine lv_aload_n C0.1 C0.2.1 dL_law_907 rfl (lv_at hl 1 rfl) ?_
  refine rArg C0 hX hbl hbA hS hl 1 (by omega) hL rfl dL_law_908 dL_law_909 dL_law_910 dL_law_911 dL_law_912 ?_
  refine rArg C0 hX hbl hbA hS hl 2 (by omega) hL rfl dL_law_913 dL_law_914 dL_law_915 dL_law_916 dL_law_917 ?_
  refine rArg C0 hX hbl hbA hS hl 3 (by omega) hL rfl dL_law_918 dL_law_919 dL_law_920 dL_law_921 dL_law_922 ?_
  refine rArg C0 hX hbl hbA hS hl 4 (by omega) hL rfl dL_law_923 dL_law_924 dL_law_925 dL_law_926 dL_law_927 ?_
  refine rArg C0 hX hbl hbA hS hl 5 (by omega) hL rfl dL_law_928 dL_law_929 dL_law_930 dL_law_931 dL_law_932 ?_
  refine kcM (ti' := ti') (ta' := ta') (As := [.int (xs (i + 1)), .int (xs (i + 2)), .int (xs (i + 3)), .int (xs (i + 4)), .int (xs (i + 5))]) (rest := [.int r]) C0 hA hP hD hS (c_X6_copy l D cA bd ti ta (xs (i + 1)) (xs (i + 2)) (xs (i + 3)) (xs (i + 4)) (xs (i + 5)) (r, ti', ta') e2) lk_X6_copy q894 q895 q893 rfl hl.1 rfl rfl (Nat.le_of_ble_eq_true rfl) ⟨Nat.le_of_ble_eq_true rfl, Nat.le_of_ble_eq_true rfl⟩ ⟨Nat.le_of_ble_eq_true rfl, Nat.le_of_ble_eq_true rfl⟩ dL_law_933 (fun H locs hP hD hS => ?_)
  refine lv_icmp_eq (tgt := 1069) C0.1 C0.2.1 dL_law_936 (by decide) (fun _ => ?_) (fun z => absurd rfl z)
  exact hN _ _ _ _ R _ _ _ hP hD hS hl
set_option maxHeartbeats 4000000 in
set_option maxRecDepth 100000 in
theorem law_tell (hL : L ≤ 384) (C0 : Cx p s m #[Value.ref b] c RL cL_law 4 D cA) (hX : va_X b L xs s s.heap) (hbl : b < s.heap.size) (hi : i + 6 ≤ L) (hN : LN p l e s m b below meth c Q D cA ad bd i 1069) : LN p l e s m b below meth c Q D cA ad bd i 941 := by
  intro si sa ti ta R H locs ls hP hD hS hl
  have hA : ∀ q : Nat, s.heap.size ≤ q → (fun q : Nat => s.heap.size ≤ q) q := fun _ h => h
  have hbA : ¬ (fun q : Nat => s.heap.size ≤ q) b := Nat.not_le.mpr hbl
  obtain ⟨r, si', sa', ti', ta', e1, e2, R⟩ := e_tell R (xs (i + 1))
  refine lv_aload_n C0.1 C0.2.1 dL_law_941 rfl (lv_at hl 2 rfl) ?_
  refine rArg C0 hX hbl hbA hS hl 1 (by omega) hL rfl dL_law_942 dL_law_943 dL_law_944 dL_law_945 dL_law_946 ?_
  refine kcX (si' := si') (sa' := sa') (As := [.int (xs (i + 1))]) (rest := []) C0 hA hP hD hS (c_X5_tell l D cA ad si sa (xs (i + 1)) (r, si', sa') e1) lk_X5_tell q523 q524 q522 rfl hl.1 rfl rfl (Nat.le_of_ble_eq_true rfl) ⟨Nat.le_of_ble_eq_true rfl, Nat.le_of_ble_eq_true rfl⟩ ⟨Nat.le_of_ble_eq_true rfl, Nat.le_of_ble_eq_true rfl⟩ dL_law_947 (fun H locs hP hD hS => ?_)
  refine lv_aload_n C0.1 C0.2.1 dL_law_950 rfl (lv_at hl 1 rfl) ?_
  refine rArg C0 hX hbl hbA hS hl 1 (by omega) hL rfl dL_law_951 dL_law_952 dL_law_953 dL_law_954 dL_law_955 ?_
  refine kcM (ti' := ti') (ta' := ta') (As := [.int (xs (i + 1))]) (rest := [.int r]) C0 hA hP hD hS (c_X6_tell l D cA bd ti ta (xs (i + 1)) (r, ti', ta') e2) lk_X6_tell q898 q899 q897 rfl hl.1 rfl rfl (Nat.le_of_ble_eq_true rfl) ⟨Nat.le_of_ble_eq_true rfl, Nat.le_of_ble_eq_true rfl⟩ ⟨Nat.le_of_ble_eq_true rfl, Nat.le_of_ble_eq_true rfl⟩ dL_law_956 (fun H locs hP hD hS => ?_)
  refine lv_icmp_eq (tgt := 1069) C0.1 C0.2.1 dL_law_959 (by decide) (fun _ => ?_) (fun z => absurd rfl z)
  exact hN _ _ _ _ R _ _ _ hP hD hS hl
set_option maxHeartbeats 4000000 in
set_option maxRecDepth 100000 in
theorem law_drop (hL : L ≤ 384) (C0 : Cx p s m #[Value.ref b] c RL cL_law 4 D cA) (hX : va_X b L xs s s.heap) (hbl : b < s.heap.size) (hi : i + 6 ≤ L) (hN : LN p l e s m b below meth c Q D cA ad bd i 1069) : LN p l e s m b below meth c Q D cA ad bd i 964 := by
  intro si sa ti ta R H locs ls hP hD hS hl
  have hA : ∀ q : Nat, s.heap.size ≤ q → (fun q : Nat => s.heap.size ≤ q) q := fun _ h => h
  have hbA : ¬ (fun q : Nat => s.heap.size ≤ q) b := Nat.not_le.mpr hbl
  obtain ⟨r, si', sa', ti', ta', e1, e2, R⟩ := e_drop R (xs (i + 1))
  refine lv_aload_n C0.1 C0.2.1 dL_law_964 rfl (lv_at hl 2 rfl) ?_
  refine rArg C0 hX hbl hbA hS hl 1 (by omega) hL rfl dL_law_965 dL_law_966 dL_law_967 dL_law_968 dL_law_969 ?_
  refine kcX (si' := si') (sa' := sa') (As := [.int (xs (i + 1))]) (rest := []) C0 hA hP hD hS (c_X5_drop l D cA ad si sa (xs (i + 1)) (r, si', sa') e1) lk_X5_drop q543 q544 q542 rfl hl.1 rfl rfl (Nat.le_of_ble_eq_true rfl) ⟨Nat.le_of_ble_eq_true rfl, Nat.le_of_ble_eq_true rfl⟩ ⟨Nat.le_of_ble_eq_true rfl, Nat.le_of_ble_eq_true rfl⟩ dL_law_970 (fun H locs hP hD hS => ?_)
  refine lv_aload_n C0.1 C0.2.1 dL_law_973 rfl (lv_at hl 1 rfl) ?_
  refine rArg C0 hX hbl hbA hS hl 1 (by omega) hL rfl dL_law_974 dL_law_975 dL_law_976 dL_law_977 dL_law_978 ?_
  refine kcM (ti' := ti') (ta' := ta') (As := [.int (xs (i + 1))]) (rest := [.int r]) C0 hA hP hD hS (c_X6_drop l D cA bd ti ta (xs (i + 1)) (r, ti', ta') e2) lk_X6_drop q906 q907 q905 rfl hl.1 rfl rfl (Nat.le_of_ble_eq_true rfl) ⟨Nat.le_of_ble_eq_true rfl, Nat.le_of_ble_eq_true rfl⟩ ⟨Nat.le_of_ble_eq_true rfl, Nat.le_of_ble_eq_true rfl⟩ dL_law_979 (fun H locs hP hD hS => ?_)
  refine lv_icmp_eq (tgt := 1069) C0.1 C0.2.1 dL_law_982 (by decide) (fun _ => ?_) (fun z => absurd rfl z)
  exact hN _ _ _ _ R _ _ _ hP hD hS hl
set_option maxHeartbeats 4000000 in
set_option maxRecDepth 100000 in
theorem law_as (hL : L ≤ 384) (C0 : Cx p s m #[Value.ref b] c RL cL_law 4 D cA) (hX : va_X b L xs s s.heap) (hbl : b < s.heap.size) (hi : i + 6 ≤ L) (hN : LN p l e s m b below meth c Q D cA ad bd i 1069) : LN p l e s m b below meth c Q D cA ad bd i 987 := by
  intro si sa ti ta R H locs ls hP hD hS hl
  have hA : ∀ q : Nat, s.heap.size ≤ q → (fun q : Nat => s.heap.size ≤ q) q := fun _ h => h
  have hbA : ¬ (fun q : Nat => s.heap.size ≤ q) b := Nat.not_le.mpr hbl
  obtain ⟨r, si', sa', ti', ta', e1, e2, R⟩ := e_as R (xs (i + 1)) (xs (i + 2))
  refine lv_aload_n C0.1 C0.2.1 dL_law_987 rfl (lv_at hl 2 rfl) ?_
  refine rArg C0 hX hbl hbA hS hl 1 (by omega) hL rfl dL_law_988 dL_law_989 dL_law_990 dL_law_991 dL_law_992 ?_
  refine rArg C0 hX hbl hbA hS hl 2 (by omega) hL rfl dL_law_993 dL_law_994 dL_law_995 dL_law_996 dL_law_997 ?_
  refine kcX (si' := si') (sa' := sa') (As := [.int (xs (i + 1)), .int (xs (i + 2))]) (rest := []) C0 hA hP hD hS (c_X5_as l D cA ad si sa (xs (i + 1)) (xs (i + 2)) (r, si', sa') e1) lk_X5_as q555 q556 q554 rfl hl.1 rfl rfl (Nat.le_of_ble_eq_true rfl) ⟨Nat.le_of_ble_eq_true rfl, Nat.le_of_ble_eq_true rfl⟩ ⟨Nat.le_of_ble_eq_true rfl, Nat.le_of_ble_eq_true rfl⟩ dL_law_998 (fun H locs hP hD hS => ?_)
  refine lv_aload_n C0.1 C0.2.1 dL_law_1001 rfl (lv_at hl 1 rfl) ?_
  refine rArg C0 hX hbl hbA hS hl 1 (by omega) hL rfl dL_law_1002 dL_law_1003 dL_law_1004 dL_law_1005 dL_law_1006 ?_
  refine rArg C0 hX hbl hbA hS hl 2 (by omega) hL rfl dL_law_1007 dL_law_1008 dL_law_1009 dL_law_1010 dL_law_1011 ?_
  refine kcM (ti' := ti') (ta' := ta') (As := [.int (xs (i + 1)), .int (xs (i + 2))]) (rest := [.int r]) C0 hA hP hD hS (c_X6_as l D cA bd ti ta (xs (i + 1)) (xs (i + 2)) (r, ti', ta') e2) lk_X6_as q910 q911 q909 rfl hl.1 rfl rfl (Nat.le_of_ble_eq_true rfl) ⟨Nat.le_of_ble_eq_true rfl, Nat.le_of_ble_eq_true rfl⟩ ⟨Nat.le_of_ble_eq_true rfl, Nat.le_of_ble_eq_true rfl⟩ dL_law_1012 (fun H locs hP hD hS => ?_)
  refine lv_icmp_eq (tgt := 1069) C0.1 C0.2.1 dL_law_1015 (by decide) (fun _ => ?_) (fun z => absurd rfl z)
  exact hN _ _ _ _ R _ _ _ hP hD hS hl
set_option maxHeartbeats 4000000 in
set_option maxRecDepth 100000 in
theorem law_trace (hL : L ≤ 384) (C0 : Cx p s m #[Value.ref b] c RL cL_law 4 D cA) (hX : va_X b L xs s s.heap) (hbl : b < s.heap.size) (hi : i + 6 ≤ L) (hN : LN p l e s m b below meth c Q D cA ad bd i 1069) : LN p l e s m b below meth c Q D cA ad bd i 1020 := by
  intro si sa ti ta R H locs ls hP hD hS hl
  have hA : ∀ q : Nat, s.heap.size ≤ q → (fun q : Nat => s.heap.size ≤ q) q := fun _ h => h
  have hbA : ¬ (fun q : Nat => s.heap.size ≤ q) b := Nat.not_le.mpr hbl
  obtain ⟨r, e1, e2⟩ := e_trace R 
  refine lv_aload_n C0.1 C0.2.1 dL_law_1020 rfl (lv_at hl 2 rfl) ?_
  refine kcX (si' := si) (sa' := sa) (As := []) (rest := []) C0 hA hP hD hS (c_X5_trace l D cA ad si sa r e1) lk_X5_trace q559 q560 q558 rfl hl.1 rfl rfl (Nat.le_of_ble_eq_true rfl) ⟨Nat.le_of_ble_eq_true rfl, Nat.le_of_ble_eq_true rfl⟩ ⟨Nat.le_of_ble_eq_true rfl, Nat.le_of_ble_eq_true rfl⟩ dL_law_1021 (fun H locs hP hD hS => ?_)
  refine lv_aload_n C0.1 C0.2.1 dL_law_1024 rfl (lv_at hl 1 rfl) ?_
  refine kcM (ti' := ti) (ta' := ta) (As := []) (rest := [.int r]) C0 hA hP hD hS (c_X6_trace l D cA bd ti ta r e2) lk_X6_trace q914 q915 q913 rfl hl.1 rfl rfl (Nat.le_of_ble_eq_true rfl) ⟨Nat.le_of_ble_eq_true rfl, Nat.le_of_ble_eq_true rfl⟩ ⟨Nat.le_of_ble_eq_true rfl, Nat.le_of_ble_eq_true rfl⟩ dL_law_1025 (fun H locs hP hD hS => ?_)
  refine lv_icmp_eq (tgt := 1069) C0.1 C0.2.1 dL_law_1028 (by decide) (fun _ => ?_) (fun z => absurd rfl z)
  exact hN _ _ _ _ R _ _ _ hP hD hS hl
set_option maxHeartbeats 4000000 in
set_option maxRecDepth 100000 in
theorem law_fault (hL : L ≤ 384) (C0 : Cx p s m #[Value.ref b] c RL cL_law 4 D cA) (hX : va_X b L xs s s.heap) (hbl : b < s.heap.size) (hi : i + 6 ≤ L) (hN : LN p l e s m b below meth c Q D cA ad bd i 1069) : LN p l e s m b below meth c Q D cA ad bd i 1033 := by
  intro si sa ti ta R H locs ls hP hD hS hl
  have hA : ∀ q : Nat, s.heap.size ≤ q → (fun q : Nat => s.heap.size ≤ q) q := fun _ h => h
  have hbA : ¬ (fun q : Nat => s.heap.size ≤ q) b := Nat.not_le.mpr hbl
  obtain ⟨r, e1, e2⟩ := e_fault R 
  refine lv_aload_n C0.1 C0.2.1 dL_law_1033 rfl (lv_at hl 2 rfl) ?_
  refine kcX (si' := si) (sa' := sa) (As := []) (rest := []) C0 hA hP hD hS (c_X5_fault l D cA ad si sa r e1) lk_X5_fault q563 q564 q562 rfl hl.1 rfl rfl (Nat.le_of_ble_eq_true rfl) ⟨Nat.le_of_ble_eq_true rfl, Nat.le_of_ble_eq_true rfl⟩ ⟨Nat.le_of_ble_eq_true rfl, Nat.le_of_ble_eq_true rfl⟩ dL_law_1034 (fun H locs hP hD hS => ?_)
  refine lv_aload_n C0.1 C0.2.1 dL_law_1037 rfl (lv_at hl 1 rfl) ?_
  refine kcM (ti' := ti) (ta' := ta) (As := []) (rest := [.int r]) C0 hA hP hD hS (c_X6_fault l D cA bd ti ta r e2) lk_X6_fault q918 q919 q917 rfl hl.1 rfl rfl (Nat.le_of_ble_eq_true rfl) ⟨Nat.le_of_ble_eq_true rfl, Nat.le_of_ble_eq_true rfl⟩ ⟨Nat.le_of_ble_eq_true rfl, Nat.le_of_ble_eq_true rfl⟩ dL_law_1038 (fun H locs hP hD hS => ?_)
  refine lv_icmp_eq (tgt := 1069) C0.1 C0.2.1 dL_law_1041 (by decide) (fun _ => ?_) (fun z => absurd rfl z)
  exact hN _ _ _ _ R _ _ _ hP hD hS hl
set_option maxHeartbeats 4000000 in
set_option maxRecDepth 100000 in
theorem law_many (hL : L ≤ 384) (C0 : Cx p s m #[Value.ref b] c RL cL_law 4 D cA) (hX : va_X b L xs s s.heap) (hbl : b < s.heap.size) (hi : i + 6 ≤ L) (hN : LN p l e s m b below meth c Q D cA ad bd i 1069) : LN p l e s m b below meth c Q D cA ad bd i 1046 := by
  intro si sa ti ta R H locs ls hP hD hS hl
  have hA : ∀ q : Nat, s.heap.size ≤ q → (fun q : Nat => s.heap.size ≤ q) q := fun _ h => h
  have hbA : ¬ (fun q : Nat => s.heap.size ≤ q) b := Nat.not_le.mpr hbl
  obtain ⟨r, e1, e2⟩ := e_many R (xs (i + 1))
  refine lv_aload_n C0.1 C0.2.1 dL_law_1046 rfl (lv_at hl 2 rfl) ?_
  refine rArg C0 hX hbl hbA hS hl 1 (by omega) hL rfl dL_law_1047 dL_law_1048 dL_law_1049 dL_law_1050 dL_law_1051 ?_
  refine kcX (si' := si) (sa' := sa) (As := [.int (xs (i + 1))]) (rest := []) C0 hA hP hD hS (c_X5_many l D cA ad si sa (xs (i + 1)) r e1) lk_X5_many q567 q568 q566 rfl hl.1 rfl rfl (Nat.le_of_ble_eq_true rfl) ⟨Nat.le_of_ble_eq_true rfl, Nat.le_of_ble_eq_true rfl⟩ ⟨Nat.le_of_ble_eq_true rfl, Nat.le_of_ble_eq_true rfl⟩ dL_law_1052 (fun H locs hP hD hS => ?_)
  refine lv_aload_n C0.1 C0.2.1 dL_law_1055 rfl (lv_at hl 1 rfl) ?_
  refine rArg C0 hX hbl hbA hS hl 1 (by omega) hL rfl dL_law_1056 dL_law_1057 dL_law_1058 dL_law_1059 dL_law_1060 ?_
  refine kcM (ti' := ti) (ta' := ta) (As := [.int (xs (i + 1))]) (rest := [.int r]) C0 hA hP hD hS (c_X6_many l D cA bd ti ta (xs (i + 1)) r e2) lk_X6_many q922 q923 q921 rfl hl.1 rfl rfl (Nat.le_of_ble_eq_true rfl) ⟨Nat.le_of_ble_eq_true rfl, Nat.le_of_ble_eq_true rfl⟩ ⟨Nat.le_of_ble_eq_true rfl, Nat.le_of_ble_eq_true rfl⟩ dL_law_1061 (fun H locs hP hD hS => ?_)
  refine lv_icmp_eq (tgt := 1069) C0.1 C0.2.1 dL_law_1064 (by decide) (fun _ => ?_) (fun z => absurd rfl z)
  exact hN _ _ _ _ R _ _ _ hP hD hS hl
end LCASES

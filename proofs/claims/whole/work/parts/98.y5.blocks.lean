section BLK
variable {p : Program} {l : Launch} {e : Env} {s : State} {m : MethodId} {below : List Frame} {meth : Method} {c : Code} {D : va_G} {dA : Nat → ClassId} {A : Nat → Prop} {b L ce so : Nat} {xs : Nat → Int32} {Q : State → Prop} {mem : Mem} {f g n : Nat} {i : Int32}
theorem bl_0 (C : cx_m lt_m D dA 9 p s m #[Value.ref b] meth c) (hX : va_X b L xs s s.heap) (hbl : b < s.heap.size) (hbA : ¬ A b) (hce : ce ≤ room_1.cells) (hso : so ≤ room_1.slots) (hin : ∀ k : Nat, k < 7 → vp_in (i + nI k) L) (hfm : f + 83 ≤ g ∨ g + 19 ≤ f) (hc9 : n < 90000) (h : RR_r mem f g n) (kk : ∀ mem2 : Mem, RR_r mem2 f g (n + 1) → LW p l e s m b below meth c D dA A ce so Q 648 (lv4 b f g i) [] mem2) : LW p l e s m b below meth c D dA A ce so Q 112 (lv4 b f g i) [] mem := by
  obtain ⟨v, mem1, mem2, e1, e2, hR, hf1, -⟩ := st_section (b0 := xs (i + nI 1).toNatClampNeg) (b1 := xs (i + nI 2).toNatClampNeg) (b2 := xs (i + nI 3).toNatClampNeg) (c1 := xs (i + nI 4).toNatClampNeg) (c2 := xs (i + nI 5).toNatClampNeg) hfm h
  obtain ⟨fs, hF⟩ := ob_f h
  obtain ⟨gs, hG⟩ := ob_g h
  rw [← hf1 g (by omega)] at hG
  refine LW_p C fl_112 rfl rfl ?_
  refine LW_s C hX hbl hbA fl_113 fl_114 fl_115 rfl (fun _ => rfl) fl_116 fl_117 (hin 1 (by omega)) ?_
  refine LW_s C hX hbl hbA fl_118 fl_119 fl_120 rfl (fun _ => rfl) fl_121 fl_122 (hin 2 (by omega)) ?_
  refine LW_s C hX hbl hbA fl_123 fl_124 fl_125 rfl (fun _ => rfl) fl_126 fl_127 (hin 3 (by omega)) ?_
  refine LW_s C hX hbl hbA fl_128 fl_129 fl_130 rfl (fun _ => rfl) fl_131 fl_132 (hin 4 (by omega)) ?_
  refine LW_s C hX hbl hbA fl_133 fl_134 fl_135 rfl (fun _ => rfl) fl_136 fl_137 (hin 5 (by omega)) ?_
  refine LW_c (a := f) (rest := []) (as := [.int (xs (i + nI 1).toNatClampNeg), .int (xs (i + nI 2).toNatClampNeg), .int (xs (i + nI 3).toNatClampNeg), .int (xs (i + nI 4).toNatClampNeg), .int (xs (i + nI 5).toNatClampNeg)]) C fl_138 rfl (Nat.le_of_ble_eq_true rfl) (Nat.le_of_ble_eq_true rfl) hF e1 hce hso rfl ?_
  refine LW_p C fl_141 rfl rfl ?_
  refine LW_s C hX hbl hbA fl_142 fl_143 fl_144 rfl (fun _ => rfl) fl_145 fl_146 (hin 1 (by omega)) ?_
  refine LW_s C hX hbl hbA fl_147 fl_148 fl_149 rfl (fun _ => rfl) fl_150 fl_151 (hin 2 (by omega)) ?_
  refine LW_s C hX hbl hbA fl_152 fl_153 fl_154 rfl (fun _ => rfl) fl_155 fl_156 (hin 3 (by omega)) ?_
  refine LW_s C hX hbl hbA fl_157 fl_158 fl_159 rfl (fun _ => rfl) fl_160 fl_161 (hin 4 (by omega)) ?_
  refine LW_s C hX hbl hbA fl_162 fl_163 fl_164 rfl (fun _ => rfl) fl_165 fl_166 (hin 5 (by omega)) ?_
  refine LW_c (a := g) (rest := [.int v]) (as := [.int (xs (i + nI 1).toNatClampNeg), .int (xs (i + nI 2).toNatClampNeg), .int (xs (i + nI 3).toNatClampNeg), .int (xs (i + nI 4).toNatClampNeg), .int (xs (i + nI 5).toNatClampNeg)]) C fl_167 rfl (Nat.le_of_ble_eq_true rfl) (Nat.le_of_ble_eq_true rfl) hG e2 hce hso rfl ?_
  exact LW_eq C fl_170 (kk mem2 hR)
theorem bl_1 (C : cx_m lt_m D dA 9 p s m #[Value.ref b] meth c) (hX : va_X b L xs s s.heap) (hbl : b < s.heap.size) (hbA : ¬ A b) (hce : ce ≤ room_1.cells) (hso : so ≤ room_1.slots) (hin : ∀ k : Nat, k < 7 → vp_in (i + nI k) L) (hfm : f + 83 ≤ g ∨ g + 19 ≤ f) (hc9 : n < 90000) (h : RR_r mem f g n) (kk : ∀ mem2 : Mem, RR_r mem2 f g (n + 1) → LW p l e s m b below meth c D dA A ce so Q 648 (lv4 b f g i) [] mem2) : LW p l e s m b below meth c D dA A ce so Q 175 (lv4 b f g i) [] mem := by
  obtain ⟨v, mem1, mem2, e1, e2, hR, hf1, -⟩ := st_clear hfm h
  obtain ⟨fs, hF⟩ := ob_f h
  obtain ⟨gs, hG⟩ := ob_g h
  rw [← hf1 g (by omega)] at hG
  refine LW_p C fl_175 rfl rfl ?_
  refine LW_c (a := f) (rest := []) (as := []) C fl_176 rfl (Nat.le_of_ble_eq_true rfl) (Nat.le_of_ble_eq_true rfl) hF e1 hce hso rfl ?_
  refine LW_p C fl_179 rfl rfl ?_
  refine LW_c (a := g) (rest := [.int v]) (as := []) C fl_180 rfl (Nat.le_of_ble_eq_true rfl) (Nat.le_of_ble_eq_true rfl) hG e2 hce hso rfl ?_
  exact LW_eq C fl_183 (kk mem2 hR)
theorem bl_2 (C : cx_m lt_m D dA 9 p s m #[Value.ref b] meth c) (hX : va_X b L xs s s.heap) (hbl : b < s.heap.size) (hbA : ¬ A b) (hce : ce ≤ room_1.cells) (hso : so ≤ room_1.slots) (hin : ∀ k : Nat, k < 7 → vp_in (i + nI k) L) (hfm : f + 83 ≤ g ∨ g + 19 ≤ f) (hc9 : n < 90000) (h : RR_r mem f g n) (kk : ∀ mem2 : Mem, RR_r mem2 f g (n + 1) → LW p l e s m b below meth c D dA A ce so Q 648 (lv4 b f g i) [] mem2) : LW p l e s m b below meth c D dA A ce so Q 188 (lv4 b f g i) [] mem := by
  obtain ⟨v, mem1, mem2, e1, e2, hR, hf1, -⟩ := st_sections h
  obtain ⟨fs, hF⟩ := ob_f h
  obtain ⟨gs, hG⟩ := ob_g h
  rw [← hf1 g (by omega)] at hG
  refine LW_p C fl_188 rfl rfl ?_
  refine LW_c (a := f) (rest := []) (as := []) C fl_189 rfl (Nat.le_of_ble_eq_true rfl) (Nat.le_of_ble_eq_true rfl) hF e1 hce hso rfl ?_
  refine LW_p C fl_192 rfl rfl ?_
  refine LW_c (a := g) (rest := [.int v]) (as := []) C fl_193 rfl (Nat.le_of_ble_eq_true rfl) (Nat.le_of_ble_eq_true rfl) hG e2 hce hso rfl ?_
  exact LW_eq C fl_196 (kk mem2 hR)
theorem bl_3 (C : cx_m lt_m D dA 9 p s m #[Value.ref b] meth c) (hX : va_X b L xs s s.heap) (hbl : b < s.heap.size) (hbA : ¬ A b) (hce : ce ≤ room_1.cells) (hso : so ≤ room_1.slots) (hin : ∀ k : Nat, k < 7 → vp_in (i + nI k) L) (hfm : f + 83 ≤ g ∨ g + 19 ≤ f) (hc9 : n < 90000) (h : RR_r mem f g n) (kk : ∀ mem2 : Mem, RR_r mem2 f g (n + 1) → LW p l e s m b below meth c D dA A ce so Q 648 (lv4 b f g i) [] mem2) : LW p l e s m b below meth c D dA A ce so Q 201 (lv4 b f g i) [] mem := by
  obtain ⟨v, mem1, mem2, e1, e2, hR, hf1, -⟩ := st_stable (d := xs (i + nI 1).toNatClampNeg) (c0 := xs (i + nI 2).toNatClampNeg) (c1 := xs (i + nI 3).toNatClampNeg) (c2 := xs (i + nI 4).toNatClampNeg) (c3 := xs (i + nI 5).toNatClampNeg) (c4 := xs (i + nI 6).toNatClampNeg) hfm h
  obtain ⟨fs, hF⟩ := ob_f h
  obtain ⟨gs, hG⟩ := ob_g h
  rw [← hf1 g (by omega)] at hG
  refine LW_p C fl_201 rfl rfl ?_
  refine LW_s C hX hbl hbA fl_202 fl_203 fl_204 rfl (fun _ => rfl) fl_205 fl_206 (hin 1 (by omega)) ?_
  refine LW_s C hX hbl hbA fl_207 fl_208 fl_209 rfl (fun _ => rfl) fl_210 fl_211 (hin 2 (by omega)) ?_
  refine LW_s C hX hbl hbA fl_212 fl_213 fl_214 rfl (fun _ => rfl) fl_215 fl_216 (hin 3 (by omega)) ?_
  refine LW_s C hX hbl hbA fl_217 fl_218 fl_219 rfl (fun _ => rfl) fl_220 fl_221 (hin 4 (by omega)) ?_
  refine LW_s C hX hbl hbA fl_222 fl_223 fl_224 rfl (fun _ => rfl) fl_225 fl_226 (hin 5 (by omega)) ?_
  refine LW_s C hX hbl hbA fl_227 fl_228 fl_229 rfl (fun _ => rfl) fl_231 fl_232 (hin 6 (by omega)) ?_
  refine LW_c (a := f) (rest := []) (as := [.int (xs (i + nI 1).toNatClampNeg), .int (xs (i + nI 2).toNatClampNeg), .int (xs (i + nI 3).toNatClampNeg), .int (xs (i + nI 4).toNatClampNeg), .int (xs (i + nI 5).toNatClampNeg), .int (xs (i + nI 6).toNatClampNeg)]) C fl_233 rfl (Nat.le_of_ble_eq_true rfl) (Nat.le_of_ble_eq_true rfl) hF e1 hce hso rfl ?_
  refine LW_p C fl_236 rfl rfl ?_
  refine LW_s C hX hbl hbA fl_237 fl_238 fl_239 rfl (fun _ => rfl) fl_240 fl_241 (hin 1 (by omega)) ?_
  refine LW_s C hX hbl hbA fl_242 fl_243 fl_244 rfl (fun _ => rfl) fl_245 fl_246 (hin 2 (by omega)) ?_
  refine LW_s C hX hbl hbA fl_247 fl_248 fl_249 rfl (fun _ => rfl) fl_250 fl_251 (hin 3 (by omega)) ?_
  refine LW_s C hX hbl hbA fl_252 fl_253 fl_254 rfl (fun _ => rfl) fl_255 fl_256 (hin 4 (by omega)) ?_
  refine LW_s C hX hbl hbA fl_257 fl_258 fl_259 rfl (fun _ => rfl) fl_260 fl_261 (hin 5 (by omega)) ?_
  refine LW_s C hX hbl hbA fl_262 fl_263 fl_264 rfl (fun _ => rfl) fl_266 fl_267 (hin 6 (by omega)) ?_
  refine LW_c (a := g) (rest := [.int v]) (as := [.int (xs (i + nI 1).toNatClampNeg), .int (xs (i + nI 2).toNatClampNeg), .int (xs (i + nI 3).toNatClampNeg), .int (xs (i + nI 4).toNatClampNeg), .int (xs (i + nI 5).toNatClampNeg), .int (xs (i + nI 6).toNatClampNeg)]) C fl_268 rfl (Nat.le_of_ble_eq_true rfl) (Nat.le_of_ble_eq_true rfl) hG e2 hce hso rfl ?_
  exact LW_eq C fl_271 (kk mem2 hR)
theorem bl_4 (C : cx_m lt_m D dA 9 p s m #[Value.ref b] meth c) (hX : va_X b L xs s s.heap) (hbl : b < s.heap.size) (hbA : ¬ A b) (hce : ce ≤ room_1.cells) (hso : so ≤ room_1.slots) (hin : ∀ k : Nat, k < 7 → vp_in (i + nI k) L) (hfm : f + 83 ≤ g ∨ g + 19 ≤ f) (hc9 : n < 90000) (h : RR_r mem f g n) (kk : ∀ mem2 : Mem, RR_r mem2 f g (n + 1) → LW p l e s m b below meth c D dA A ce so Q 648 (lv4 b f g i) [] mem2) : LW p l e s m b below meth c D dA A ce so Q 276 (lv4 b f g i) [] mem := by
  obtain ⟨v, mem1, mem2, e1, e2, hR, hf1, -⟩ := st_about (j := xs (i + nI 1).toNatClampNeg) (w := xs (i + nI 2).toNatClampNeg) hfm h
  obtain ⟨fs, hF⟩ := ob_f h
  obtain ⟨gs, hG⟩ := ob_g h
  rw [← hf1 g (by omega)] at hG
  refine LW_p C fl_276 rfl rfl ?_
  refine LW_s C hX hbl hbA fl_277 fl_278 fl_279 rfl (fun _ => rfl) fl_280 fl_281 (hin 1 (by omega)) ?_
  refine LW_s C hX hbl hbA fl_282 fl_283 fl_284 rfl (fun _ => rfl) fl_285 fl_286 (hin 2 (by omega)) ?_
  refine LW_c (a := f) (rest := []) (as := [.int (xs (i + nI 1).toNatClampNeg), .int (xs (i + nI 2).toNatClampNeg)]) C fl_287 rfl (Nat.le_of_ble_eq_true rfl) (Nat.le_of_ble_eq_true rfl) hF e1 hce hso rfl ?_
  refine LW_p C fl_290 rfl rfl ?_
  refine LW_s C hX hbl hbA fl_291 fl_292 fl_293 rfl (fun _ => rfl) fl_294 fl_295 (hin 1 (by omega)) ?_
  refine LW_s C hX hbl hbA fl_296 fl_297 fl_298 rfl (fun _ => rfl) fl_299 fl_300 (hin 2 (by omega)) ?_
  refine LW_c (a := g) (rest := [.long v]) (as := [.int (xs (i + nI 1).toNatClampNeg), .int (xs (i + nI 2).toNatClampNeg)]) C fl_301 rfl (Nat.le_of_ble_eq_true rfl) (Nat.le_of_ble_eq_true rfl) hG e2 hce hso rfl ?_
  exact LW_lq C fl_304 fl_305 (kk mem2 hR)
theorem bl_5 (C : cx_m lt_m D dA 9 p s m #[Value.ref b] meth c) (hX : va_X b L xs s s.heap) (hbl : b < s.heap.size) (hbA : ¬ A b) (hce : ce ≤ room_1.cells) (hso : so ≤ room_1.slots) (hin : ∀ k : Nat, k < 7 → vp_in (i + nI k) L) (hfm : f + 83 ≤ g ∨ g + 19 ≤ f) (hc9 : n < 90000) (h : RR_r mem f g n) (kk : ∀ mem2 : Mem, RR_r mem2 f g (n + 1) → LW p l e s m b below meth c D dA A ce so Q 648 (lv4 b f g i) [] mem2) : LW p l e s m b below meth c D dA A ce so Q 310 (lv4 b f g i) [] mem := by
  obtain ⟨v, mem1, mem2, e1, e2, hR, hf1, -⟩ := st_echo (j := xs (i + nI 1).toNatClampNeg) (nn := xs (i + nI 2).toNatClampNeg) (w := xs (i + nI 3).toNatClampNeg) hfm h
  obtain ⟨fs, hF⟩ := ob_f h
  obtain ⟨gs, hG⟩ := ob_g h
  rw [← hf1 g (by omega)] at hG
  refine LW_p C fl_310 rfl rfl ?_
  refine LW_s C hX hbl hbA fl_311 fl_312 fl_313 rfl (fun _ => rfl) fl_314 fl_315 (hin 1 (by omega)) ?_
  refine LW_s C hX hbl hbA fl_316 fl_317 fl_318 rfl (fun _ => rfl) fl_319 fl_320 (hin 2 (by omega)) ?_
  refine LW_s C hX hbl hbA fl_321 fl_322 fl_323 rfl (fun _ => rfl) fl_324 fl_325 (hin 3 (by omega)) ?_
  refine LW_c (a := f) (rest := []) (as := [.int (xs (i + nI 1).toNatClampNeg), .int (xs (i + nI 2).toNatClampNeg), .int (xs (i + nI 3).toNatClampNeg)]) C fl_326 rfl (Nat.le_of_ble_eq_true rfl) (Nat.le_of_ble_eq_true rfl) hF e1 hce hso rfl ?_
  refine LW_p C fl_329 rfl rfl ?_
  refine LW_s C hX hbl hbA fl_330 fl_331 fl_332 rfl (fun _ => rfl) fl_333 fl_334 (hin 1 (by omega)) ?_
  refine LW_s C hX hbl hbA fl_335 fl_336 fl_337 rfl (fun _ => rfl) fl_338 fl_339 (hin 2 (by omega)) ?_
  refine LW_s C hX hbl hbA fl_340 fl_341 fl_342 rfl (fun _ => rfl) fl_343 fl_344 (hin 3 (by omega)) ?_
  refine LW_c (a := g) (rest := [.long v]) (as := [.int (xs (i + nI 1).toNatClampNeg), .int (xs (i + nI 2).toNatClampNeg), .int (xs (i + nI 3).toNatClampNeg)]) C fl_345 rfl (Nat.le_of_ble_eq_true rfl) (Nat.le_of_ble_eq_true rfl) hG e2 hce hso rfl ?_
  exact LW_lq C fl_348 fl_349 (kk mem2 hR)
theorem bl_6 (C : cx_m lt_m D dA 9 p s m #[Value.ref b] meth c) (hX : va_X b L xs s s.heap) (hbl : b < s.heap.size) (hbA : ¬ A b) (hce : ce ≤ room_1.cells) (hso : so ≤ room_1.slots) (hin : ∀ k : Nat, k < 7 → vp_in (i + nI k) L) (hfm : f + 83 ≤ g ∨ g + 19 ≤ f) (hc9 : n < 90000) (h : RR_r mem f g n) (kk : ∀ mem2 : Mem, RR_r mem2 f g (n + 1) → LW p l e s m b below meth c D dA A ce so Q 648 (lv4 b f g i) [] mem2) : LW p l e s m b below meth c D dA A ce so Q 354 (lv4 b f g i) [] mem := by
  obtain ⟨v, mem1, mem2, e1, e2, hR, hf1, -⟩ := st_plan (w := xs (i + nI 1).toNatClampNeg) (k := xs (i + nI 2).toNatClampNeg) (way := xs (i + nI 3).toNatClampNeg) hfm h
  obtain ⟨fs, hF⟩ := ob_f h
  obtain ⟨gs, hG⟩ := ob_g h
  rw [← hf1 g (by omega)] at hG
  refine LW_p C fl_354 rfl rfl ?_
  refine LW_s C hX hbl hbA fl_355 fl_356 fl_357 rfl (fun _ => rfl) fl_358 fl_359 (hin 1 (by omega)) ?_
  refine LW_s C hX hbl hbA fl_360 fl_361 fl_362 rfl (fun _ => rfl) fl_363 fl_364 (hin 2 (by omega)) ?_
  refine LW_s C hX hbl hbA fl_365 fl_366 fl_367 rfl (fun _ => rfl) fl_368 fl_369 (hin 3 (by omega)) ?_
  refine LW_c (a := f) (rest := []) (as := [.int (xs (i + nI 1).toNatClampNeg), .int (xs (i + nI 2).toNatClampNeg), .int (xs (i + nI 3).toNatClampNeg)]) C fl_370 rfl (Nat.le_of_ble_eq_true rfl) (Nat.le_of_ble_eq_true rfl) hF e1 hce hso rfl ?_
  refine LW_p C fl_373 rfl rfl ?_
  refine LW_s C hX hbl hbA fl_374 fl_375 fl_376 rfl (fun _ => rfl) fl_377 fl_378 (hin 1 (by omega)) ?_
  refine LW_s C hX hbl hbA fl_379 fl_380 fl_381 rfl (fun _ => rfl) fl_382 fl_383 (hin 2 (by omega)) ?_
  refine LW_s C hX hbl hbA fl_384 fl_385 fl_386 rfl (fun _ => rfl) fl_387 fl_388 (hin 3 (by omega)) ?_
  refine LW_c (a := g) (rest := [.int v]) (as := [.int (xs (i + nI 1).toNatClampNeg), .int (xs (i + nI 2).toNatClampNeg), .int (xs (i + nI 3).toNatClampNeg)]) C fl_389 rfl (Nat.le_of_ble_eq_true rfl) (Nat.le_of_ble_eq_true rfl) hG e2 hce hso rfl ?_
  exact LW_eq C fl_392 (kk mem2 hR)
theorem bl_7 (C : cx_m lt_m D dA 9 p s m #[Value.ref b] meth c) (hX : va_X b L xs s s.heap) (hbl : b < s.heap.size) (hbA : ¬ A b) (hce : ce ≤ room_1.cells) (hso : so ≤ room_1.slots) (hin : ∀ k : Nat, k < 7 → vp_in (i + nI k) L) (hfm : f + 83 ≤ g ∨ g + 19 ≤ f) (hc9 : n < 90000) (h : RR_r mem f g n) (kk : ∀ mem2 : Mem, RR_r mem2 f g (n + 1) → LW p l e s m b below meth c D dA A ce so Q 648 (lv4 b f g i) [] mem2) : LW p l e s m b below meth c D dA A ce so Q 397 (lv4 b f g i) [] mem := by
  obtain ⟨v, mem1, mem2, e1, e2, hR, hf1, -⟩ := st_planned (j := xs (i + nI 1).toNatClampNeg) (w := xs (i + nI 2).toNatClampNeg) h
  obtain ⟨fs, hF⟩ := ob_f h
  obtain ⟨gs, hG⟩ := ob_g h
  rw [← hf1 g (by omega)] at hG
  refine LW_p C fl_397 rfl rfl ?_
  refine LW_s C hX hbl hbA fl_398 fl_399 fl_400 rfl (fun _ => rfl) fl_401 fl_402 (hin 1 (by omega)) ?_
  refine LW_s C hX hbl hbA fl_403 fl_404 fl_405 rfl (fun _ => rfl) fl_406 fl_407 (hin 2 (by omega)) ?_
  refine LW_c (a := f) (rest := []) (as := [.int (xs (i + nI 1).toNatClampNeg), .int (xs (i + nI 2).toNatClampNeg)]) C fl_408 rfl (Nat.le_of_ble_eq_true rfl) (Nat.le_of_ble_eq_true rfl) hF e1 hce hso rfl ?_
  refine LW_p C fl_411 rfl rfl ?_
  refine LW_s C hX hbl hbA fl_412 fl_413 fl_414 rfl (fun _ => rfl) fl_415 fl_416 (hin 1 (by omega)) ?_
  refine LW_s C hX hbl hbA fl_417 fl_418 fl_419 rfl (fun _ => rfl) fl_420 fl_421 (hin 2 (by omega)) ?_
  refine LW_c (a := g) (rest := [.long v]) (as := [.int (xs (i + nI 1).toNatClampNeg), .int (xs (i + nI 2).toNatClampNeg)]) C fl_422 rfl (Nat.le_of_ble_eq_true rfl) (Nat.le_of_ble_eq_true rfl) hG e2 hce hso rfl ?_
  exact LW_lq C fl_425 fl_426 (kk mem2 hR)
theorem bl_8 (C : cx_m lt_m D dA 9 p s m #[Value.ref b] meth c) (hX : va_X b L xs s s.heap) (hbl : b < s.heap.size) (hbA : ¬ A b) (hce : ce ≤ room_1.cells) (hso : so ≤ room_1.slots) (hin : ∀ k : Nat, k < 7 → vp_in (i + nI k) L) (hfm : f + 83 ≤ g ∨ g + 19 ≤ f) (hc9 : n < 90000) (h : RR_r mem f g n) (kk : ∀ mem2 : Mem, RR_r mem2 f g (n + 1) → LW p l e s m b below meth c D dA A ce so Q 648 (lv4 b f g i) [] mem2) : LW p l e s m b below meth c D dA A ce so Q 431 (lv4 b f g i) [] mem := by
  obtain ⟨v, mem1, mem2, e1, e2, hR, hf1, -⟩ := st_forge (j := xs (i + nI 1).toNatClampNeg) (w := xs (i + nI 2).toNatClampNeg) (v := (xs (i + nI 3).toNatClampNeg).toInt64 <<< ((nI 32).toInt64 &&& 63) ||| (xs (i + nI 4).toNatClampNeg).toInt64 &&& 4294967295) hfm h
  obtain ⟨fs, hF⟩ := ob_f h
  obtain ⟨gs, hG⟩ := ob_g h
  rw [← hf1 g (by omega)] at hG
  refine LW_p C fl_431 rfl rfl ?_
  refine LW_s C hX hbl hbA fl_432 fl_433 fl_434 rfl (fun _ => rfl) fl_435 fl_436 (hin 1 (by omega)) ?_
  refine LW_s C hX hbl hbA fl_437 fl_438 fl_439 rfl (fun _ => rfl) fl_440 fl_441 (hin 2 (by omega)) ?_
  refine LW_s C hX hbl hbA fl_442 fl_443 fl_444 rfl (fun _ => rfl) fl_445 fl_446 (hin 3 (by omega)) ?_
  refine LW_p C fl_447 rfl rfl ?_
  refine LW_p C fl_448 rfl rfl ?_
  refine LW_p C fl_450 rfl rfl ?_
  refine LW_s C hX hbl hbA fl_451 fl_452 fl_453 rfl (fun _ => rfl) fl_454 fl_455 (hin 4 (by omega)) ?_
  refine LW_p C fl_456 rfl rfl ?_
  refine LW_p C fl_457 rfl rfl ?_
  refine LW_p C fl_460 rfl rfl ?_
  refine LW_p C fl_461 rfl rfl ?_
  refine LW_c (a := f) (rest := []) (as := [.int (xs (i + nI 1).toNatClampNeg), .int (xs (i + nI 2).toNatClampNeg), .long ((xs (i + nI 3).toNatClampNeg).toInt64 <<< ((nI 32).toInt64 &&& 63) ||| (xs (i + nI 4).toNatClampNeg).toInt64 &&& 4294967295)]) C fl_462 rfl (Nat.le_of_ble_eq_true rfl) (Nat.le_of_ble_eq_true rfl) hF e1 hce hso rfl ?_
  refine LW_p C fl_465 rfl rfl ?_
  refine LW_s C hX hbl hbA fl_466 fl_467 fl_468 rfl (fun _ => rfl) fl_469 fl_470 (hin 1 (by omega)) ?_
  refine LW_s C hX hbl hbA fl_471 fl_472 fl_473 rfl (fun _ => rfl) fl_474 fl_475 (hin 2 (by omega)) ?_
  refine LW_s C hX hbl hbA fl_476 fl_477 fl_478 rfl (fun _ => rfl) fl_479 fl_480 (hin 3 (by omega)) ?_
  refine LW_p C fl_481 rfl rfl ?_
  refine LW_p C fl_482 rfl rfl ?_
  refine LW_p C fl_484 rfl rfl ?_
  refine LW_s C hX hbl hbA fl_485 fl_486 fl_487 rfl (fun _ => rfl) fl_488 fl_489 (hin 4 (by omega)) ?_
  refine LW_p C fl_490 rfl rfl ?_
  refine LW_p C fl_491 rfl rfl ?_
  refine LW_p C fl_494 rfl rfl ?_
  refine LW_p C fl_495 rfl rfl ?_
  refine LW_c (a := g) (rest := [.int v]) (as := [.int (xs (i + nI 1).toNatClampNeg), .int (xs (i + nI 2).toNatClampNeg), .long ((xs (i + nI 3).toNatClampNeg).toInt64 <<< ((nI 32).toInt64 &&& 63) ||| (xs (i + nI 4).toNatClampNeg).toInt64 &&& 4294967295)]) C fl_496 rfl (Nat.le_of_ble_eq_true rfl) (Nat.le_of_ble_eq_true rfl) hG e2 hce hso rfl ?_
  exact LW_eq C fl_499 (kk mem2 hR)
theorem bl_9 (C : cx_m lt_m D dA 9 p s m #[Value.ref b] meth c) (hX : va_X b L xs s s.heap) (hbl : b < s.heap.size) (hbA : ¬ A b) (hce : ce ≤ room_1.cells) (hso : so ≤ room_1.slots) (hin : ∀ k : Nat, k < 7 → vp_in (i + nI k) L) (hfm : f + 83 ≤ g ∨ g + 19 ≤ f) (hc9 : n < 90000) (h : RR_r mem f g n) (kk : ∀ mem2 : Mem, RR_r mem2 f g (n + 1) → LW p l e s m b below meth c D dA A ce so Q 648 (lv4 b f g i) [] mem2) : LW p l e s m b below meth c D dA A ce so Q 504 (lv4 b f g i) [] mem := by
  obtain ⟨v, mem1, mem2, e1, e2, hR, hf1, -⟩ := st_check hfm h
  obtain ⟨fs, hF⟩ := ob_f h
  obtain ⟨gs, hG⟩ := ob_g h
  rw [← hf1 g (by omega)] at hG
  refine LW_p C fl_504 rfl rfl ?_
  refine LW_c (a := f) (rest := []) (as := []) C fl_505 rfl (Nat.le_of_ble_eq_true rfl) (Nat.le_of_ble_eq_true rfl) hF e1 hce hso rfl ?_
  refine LW_p C fl_508 rfl rfl ?_
  refine LW_c (a := g) (rest := [.int v]) (as := []) C fl_509 rfl (Nat.le_of_ble_eq_true rfl) (Nat.le_of_ble_eq_true rfl) hG e2 hce hso rfl ?_
  exact LW_eq C fl_512 (kk mem2 hR)
theorem bl_10 (C : cx_m lt_m D dA 9 p s m #[Value.ref b] meth c) (hX : va_X b L xs s s.heap) (hbl : b < s.heap.size) (hbA : ¬ A b) (hce : ce ≤ room_1.cells) (hso : so ≤ room_1.slots) (hin : ∀ k : Nat, k < 7 → vp_in (i + nI k) L) (hfm : f + 83 ≤ g ∨ g + 19 ≤ f) (hc9 : n < 90000) (h : RR_r mem f g n) (kk : ∀ mem2 : Mem, RR_r mem2 f g (n + 1) → LW p l e s m b below meth c D dA A ce so Q 648 (lv4 b f g i) [] mem2) : LW p l e s m b below meth c D dA A ce so Q 517 (lv4 b f g i) [] mem := by
  obtain ⟨v, mem1, mem2, e1, e2, hR, hf1, -⟩ := st_told (w := xs (i + nI 1).toNatClampNeg) h
  obtain ⟨fs, hF⟩ := ob_f h
  obtain ⟨gs, hG⟩ := ob_g h
  rw [← hf1 g (by omega)] at hG
  refine LW_p C fl_517 rfl rfl ?_
  refine LW_s C hX hbl hbA fl_518 fl_519 fl_520 rfl (fun _ => rfl) fl_521 fl_522 (hin 1 (by omega)) ?_
  refine LW_c (a := f) (rest := []) (as := [.int (xs (i + nI 1).toNatClampNeg)]) C fl_523 rfl (Nat.le_of_ble_eq_true rfl) (Nat.le_of_ble_eq_true rfl) hF e1 hce hso rfl ?_
  refine LW_p C fl_526 rfl rfl ?_
  refine LW_s C hX hbl hbA fl_527 fl_528 fl_529 rfl (fun _ => rfl) fl_530 fl_531 (hin 1 (by omega)) ?_
  refine LW_c (a := g) (rest := [.int v]) (as := [.int (xs (i + nI 1).toNatClampNeg)]) C fl_532 rfl (Nat.le_of_ble_eq_true rfl) (Nat.le_of_ble_eq_true rfl) hG e2 hce hso rfl ?_
  exact LW_eq C fl_535 (kk mem2 hR)
theorem bl_11 (C : cx_m lt_m D dA 9 p s m #[Value.ref b] meth c) (hX : va_X b L xs s s.heap) (hbl : b < s.heap.size) (hbA : ¬ A b) (hce : ce ≤ room_1.cells) (hso : so ≤ room_1.slots) (hin : ∀ k : Nat, k < 7 → vp_in (i + nI k) L) (hfm : f + 83 ≤ g ∨ g + 19 ≤ f) (hc9 : n < 90000) (h : RR_r mem f g n) (kk : ∀ mem2 : Mem, RR_r mem2 f g (n + 1) → LW p l e s m b below meth c D dA A ce so Q 648 (lv4 b f g i) [] mem2) : LW p l e s m b below meth c D dA A ce so Q 540 (lv4 b f g i) [] mem := by
  obtain ⟨v, mem1, mem2, e1, e2, hR, hf1, -⟩ := st_sample (x := xs (i + nI 1).toNatClampNeg) hc9 hfm h
  obtain ⟨fs, hF⟩ := ob_f h
  obtain ⟨gs, hG⟩ := ob_g h
  rw [← hf1 g (by omega)] at hG
  refine LW_p C fl_540 rfl rfl ?_
  refine LW_s C hX hbl hbA fl_541 fl_542 fl_543 rfl (fun _ => rfl) fl_544 fl_545 (hin 1 (by omega)) ?_
  refine LW_c (a := f) (rest := []) (as := [.int (xs (i + nI 1).toNatClampNeg)]) C fl_546 rfl (Nat.le_of_ble_eq_true rfl) (Nat.le_of_ble_eq_true rfl) hF e1 hce hso rfl ?_
  refine LW_p C fl_549 rfl rfl ?_
  refine LW_s C hX hbl hbA fl_550 fl_551 fl_552 rfl (fun _ => rfl) fl_553 fl_554 (hin 1 (by omega)) ?_
  refine LW_c (a := g) (rest := [.long v]) (as := [.int (xs (i + nI 1).toNatClampNeg)]) C fl_555 rfl (Nat.le_of_ble_eq_true rfl) (Nat.le_of_ble_eq_true rfl) hG e2 hce hso rfl ?_
  exact LW_lq C fl_558 fl_559 (kk mem2 hR)
theorem bl_12 (C : cx_m lt_m D dA 9 p s m #[Value.ref b] meth c) (hX : va_X b L xs s s.heap) (hbl : b < s.heap.size) (hbA : ¬ A b) (hce : ce ≤ room_1.cells) (hso : so ≤ room_1.slots) (hin : ∀ k : Nat, k < 7 → vp_in (i + nI k) L) (hfm : f + 83 ≤ g ∨ g + 19 ≤ f) (hc9 : n < 90000) (h : RR_r mem f g n) (kk : ∀ mem2 : Mem, RR_r mem2 f g (n + 1) → LW p l e s m b below meth c D dA A ce so Q 648 (lv4 b f g i) [] mem2) : LW p l e s m b below meth c D dA A ce so Q 564 (lv4 b f g i) [] mem := by
  obtain ⟨v, mem1, mem2, e1, e2, hR, hf1, -⟩ := st_kept (j := xs (i + nI 1).toNatClampNeg) (w := xs (i + nI 2).toNatClampNeg) h
  obtain ⟨fs, hF⟩ := ob_f h
  obtain ⟨gs, hG⟩ := ob_g h
  rw [← hf1 g (by omega)] at hG
  refine LW_p C fl_564 rfl rfl ?_
  refine LW_s C hX hbl hbA fl_565 fl_566 fl_567 rfl (fun _ => rfl) fl_568 fl_569 (hin 1 (by omega)) ?_
  refine LW_s C hX hbl hbA fl_570 fl_571 fl_572 rfl (fun _ => rfl) fl_573 fl_574 (hin 2 (by omega)) ?_
  refine LW_c (a := f) (rest := []) (as := [.int (xs (i + nI 1).toNatClampNeg), .int (xs (i + nI 2).toNatClampNeg)]) C fl_575 rfl (Nat.le_of_ble_eq_true rfl) (Nat.le_of_ble_eq_true rfl) hF e1 hce hso rfl ?_
  refine LW_p C fl_578 rfl rfl ?_
  refine LW_s C hX hbl hbA fl_579 fl_580 fl_581 rfl (fun _ => rfl) fl_582 fl_583 (hin 1 (by omega)) ?_
  refine LW_s C hX hbl hbA fl_584 fl_585 fl_586 rfl (fun _ => rfl) fl_587 fl_588 (hin 2 (by omega)) ?_
  refine LW_c (a := g) (rest := [.long v]) (as := [.int (xs (i + nI 1).toNatClampNeg), .int (xs (i + nI 2).toNatClampNeg)]) C fl_589 rfl (Nat.le_of_ble_eq_true rfl) (Nat.le_of_ble_eq_true rfl) hG e2 hce hso rfl ?_
  exact LW_lq C fl_592 fl_593 (kk mem2 hR)
theorem bl_13 (C : cx_m lt_m D dA 9 p s m #[Value.ref b] meth c) (hX : va_X b L xs s s.heap) (hbl : b < s.heap.size) (hbA : ¬ A b) (hce : ce ≤ room_1.cells) (hso : so ≤ room_1.slots) (hin : ∀ k : Nat, k < 7 → vp_in (i + nI k) L) (hfm : f + 83 ≤ g ∨ g + 19 ≤ f) (hc9 : n < 90000) (h : RR_r mem f g n) (kk : ∀ mem2 : Mem, RR_r mem2 f g (n + 1) → LW p l e s m b below meth c D dA A ce so Q 648 (lv4 b f g i) [] mem2) : LW p l e s m b below meth c D dA A ce so Q 598 (lv4 b f g i) [] mem := by
  obtain ⟨v, mem1, mem2, e1, e2, hR, hf1, -⟩ := st_drift hc9 hfm h
  obtain ⟨fs, hF⟩ := ob_f h
  obtain ⟨gs, hG⟩ := ob_g h
  rw [← hf1 g (by omega)] at hG
  refine LW_p C fl_598 rfl rfl ?_
  refine LW_c (a := f) (rest := []) (as := []) C fl_599 rfl (Nat.le_of_ble_eq_true rfl) (Nat.le_of_ble_eq_true rfl) hF e1 hce hso rfl ?_
  refine LW_p C fl_602 rfl rfl ?_
  refine LW_c (a := g) (rest := [.long v]) (as := []) C fl_603 rfl (Nat.le_of_ble_eq_true rfl) (Nat.le_of_ble_eq_true rfl) hG e2 hce hso rfl ?_
  exact LW_lq C fl_606 fl_607 (kk mem2 hR)
theorem bl_14 (C : cx_m lt_m D dA 9 p s m #[Value.ref b] meth c) (hX : va_X b L xs s s.heap) (hbl : b < s.heap.size) (hbA : ¬ A b) (hce : ce ≤ room_1.cells) (hso : so ≤ room_1.slots) (hin : ∀ k : Nat, k < 7 → vp_in (i + nI k) L) (hfm : f + 83 ≤ g ∨ g + 19 ≤ f) (hc9 : n < 90000) (h : RR_r mem f g n) (kk : ∀ mem2 : Mem, RR_r mem2 f g (n + 1) → LW p l e s m b below meth c D dA A ce so Q 648 (lv4 b f g i) [] mem2) : LW p l e s m b below meth c D dA A ce so Q 612 (lv4 b f g i) [] mem := by
  obtain ⟨v, mem1, mem2, e1, e2, hR, hf1, -⟩ := st_exact (i := xs (i + nI 1).toNatClampNeg) hc9 hfm h
  obtain ⟨fs, hF⟩ := ob_f h
  obtain ⟨gs, hG⟩ := ob_g h
  rw [← hf1 g (by omega)] at hG
  refine LW_p C fl_612 rfl rfl ?_
  refine LW_s C hX hbl hbA fl_613 fl_614 fl_615 rfl (fun _ => rfl) fl_616 fl_617 (hin 1 (by omega)) ?_
  refine LW_c (a := f) (rest := []) (as := [.int (xs (i + nI 1).toNatClampNeg)]) C fl_618 rfl (Nat.le_of_ble_eq_true rfl) (Nat.le_of_ble_eq_true rfl) hF e1 hce hso rfl ?_
  refine LW_p C fl_621 rfl rfl ?_
  refine LW_s C hX hbl hbA fl_622 fl_623 fl_624 rfl (fun _ => rfl) fl_625 fl_626 (hin 1 (by omega)) ?_
  refine LW_c (a := g) (rest := [.int v]) (as := [.int (xs (i + nI 1).toNatClampNeg)]) C fl_627 rfl (Nat.le_of_ble_eq_true rfl) (Nat.le_of_ble_eq_true rfl) hG e2 hce hso rfl ?_
  exact LW_eq C fl_630 (kk mem2 hR)
theorem bl_15 (C : cx_m lt_m D dA 9 p s m #[Value.ref b] meth c) (hX : va_X b L xs s s.heap) (hbl : b < s.heap.size) (hbA : ¬ A b) (hce : ce ≤ room_1.cells) (hso : so ≤ room_1.slots) (hin : ∀ k : Nat, k < 7 → vp_in (i + nI k) L) (hfm : f + 83 ≤ g ∨ g + 19 ≤ f) (hc9 : n < 90000) (h : RR_r mem f g n) (kk : ∀ mem2 : Mem, RR_r mem2 f g (n + 1) → LW p l e s m b below meth c D dA A ce so Q 648 (lv4 b f g i) [] mem2) : LW p l e s m b below meth c D dA A ce so Q 635 (lv4 b f g i) [] mem := by
  obtain ⟨v, mem1, mem2, e1, e2, hR, hf1, -⟩ := st_quiet hfm h
  obtain ⟨fs, hF⟩ := ob_f h
  obtain ⟨gs, hG⟩ := ob_g h
  rw [← hf1 g (by omega)] at hG
  refine LW_p C fl_635 rfl rfl ?_
  refine LW_c (a := f) (rest := []) (as := []) C fl_636 rfl (Nat.le_of_ble_eq_true rfl) (Nat.le_of_ble_eq_true rfl) hF e1 hce hso rfl ?_
  refine LW_p C fl_639 rfl rfl ?_
  refine LW_c (a := g) (rest := [.int v]) (as := []) C fl_640 rfl (Nat.le_of_ble_eq_true rfl) (Nat.le_of_ble_eq_true rfl) hG e2 hce hso rfl ?_
  exact LW_eq C fl_643 (kk mem2 hR)
end BLK

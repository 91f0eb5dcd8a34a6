section BLK
variable {p : Program} {l : Launch} {e : Env} {s : State} {m : MethodId} {below : List Frame} {meth : Method} {c : Code} {D : va_G} {dA : Nat → ClassId} {A : Nat → Prop} {b L ce so : Nat} {xs : Nat → Int32} {Q : State → Prop} {mem : Mem} {f g n : Nat} {i : Int32}
theorem lb_0 (C : cx_m lt_m D dA 9 p s m #[Value.ref b] meth c) (hX : va_X b L xs s s.heap) (hbl : b < s.heap.size) (hbA : ¬ A b) (hce : ce ≤ room_1.cells) (hso : so ≤ room_1.slots) (hin : ∀ k : Nat, k < 7 → vp_in (i + nI k) L) (hfm : f + 83 ≤ g ∨ g + 19 ≤ f) (hc9 : n < 90000) (h : RR_r mem f g n) (kk : ∀ mem2 : Mem, RR_r mem2 f g (n + 1) → LW p l e s m b below meth c D dA A ce so Q 648 (lv4 b f g i) [] mem2) : LW p l e s m b below meth c D dA A ce so Q 112 (lv4 b f g i) [] mem := by
  obtain ⟨v, mem1, mem2, e1, e2, hR, hf1, -⟩ := st_section (b0 := xs (i + nI 1).toNatClampNeg) (b1 := xs (i + nI 2).toNatClampNeg) (b2 := xs (i + nI 3).toNatClampNeg) (c1 := xs (i + nI 4).toNatClampNeg) (c2 := xs (i + nI 5).toNatClampNeg) hfm h
  obtain ⟨fs, hF⟩ := ob_f h
  obtain ⟨gs, hG⟩ := ob_g h
  rw [← hf1 g (by omega)] at hG
  refine LW_p C lf_112 rfl rfl ?_
  refine LW_s C hX hbl hbA lf_113 lf_114 lf_115 rfl (fun _ => rfl) lf_116 lf_117 (hin 1 (by omega)) ?_
  refine LW_s C hX hbl hbA lf_118 lf_119 lf_120 rfl (fun _ => rfl) lf_121 lf_122 (hin 2 (by omega)) ?_
  refine LW_s C hX hbl hbA lf_123 lf_124 lf_125 rfl (fun _ => rfl) lf_126 lf_127 (hin 3 (by omega)) ?_
  refine LW_s C hX hbl hbA lf_128 lf_129 lf_130 rfl (fun _ => rfl) lf_131 lf_132 (hin 4 (by omega)) ?_
  refine LW_s C hX hbl hbA lf_133 lf_134 lf_135 rfl (fun _ => rfl) lf_136 lf_137 (hin 5 (by omega)) ?_
  refine LW_c (a := f) (rest := []) (as := [.int (xs (i + nI 1).toNatClampNeg), .int (xs (i + nI 2).toNatClampNeg), .int (xs (i + nI 3).toNatClampNeg), .int (xs (i + nI 4).toNatClampNeg), .int (xs (i + nI 5).toNatClampNeg)]) C lf_138 rfl (Nat.le_of_ble_eq_true rfl) (Nat.le_of_ble_eq_true rfl) hF e1 hce hso rfl ?_
  refine LW_p C lf_141 rfl rfl ?_
  refine LW_s C hX hbl hbA lf_142 lf_143 lf_144 rfl (fun _ => rfl) lf_145 lf_146 (hin 1 (by omega)) ?_
  refine LW_s C hX hbl hbA lf_147 lf_148 lf_149 rfl (fun _ => rfl) lf_150 lf_151 (hin 2 (by omega)) ?_
  refine LW_s C hX hbl hbA lf_152 lf_153 lf_154 rfl (fun _ => rfl) lf_155 lf_156 (hin 3 (by omega)) ?_
  refine LW_s C hX hbl hbA lf_157 lf_158 lf_159 rfl (fun _ => rfl) lf_160 lf_161 (hin 4 (by omega)) ?_
  refine LW_s C hX hbl hbA lf_162 lf_163 lf_164 rfl (fun _ => rfl) lf_165 lf_166 (hin 5 (by omega)) ?_
  refine LW_c (a := g) (rest := [.int v]) (as := [.int (xs (i + nI 1).toNatClampNeg), .int (xs (i + nI 2).toNatClampNeg), .int (xs (i + nI 3).toNatClampNeg), .int (xs (i + nI 4).toNatClampNeg), .int (xs (i + nI 5).toNatClampNeg)]) C lf_167 rfl (Nat.le_of_ble_eq_true rfl) (Nat.le_of_ble_eq_true rfl) hG e2 hce hso rfl ?_
  exact LW_eq C lf_170 (kk mem2 hR)
theorem lb_1 (C : cx_m lt_m D dA 9 p s m #[Value.ref b] meth c) (hX : va_X b L xs s s.heap) (hbl : b < s.heap.size) (hbA : ¬ A b) (hce : ce ≤ room_1.cells) (hso : so ≤ room_1.slots) (hin : ∀ k : Nat, k < 7 → vp_in (i + nI k) L) (hfm : f + 83 ≤ g ∨ g + 19 ≤ f) (hc9 : n < 90000) (h : RR_r mem f g n) (kk : ∀ mem2 : Mem, RR_r mem2 f g (n + 1) → LW p l e s m b below meth c D dA A ce so Q 648 (lv4 b f g i) [] mem2) : LW p l e s m b below meth c D dA A ce so Q 175 (lv4 b f g i) [] mem := by
  obtain ⟨v, mem1, mem2, e1, e2, hR, hf1, -⟩ := st_clear hfm h
  obtain ⟨fs, hF⟩ := ob_f h
  obtain ⟨gs, hG⟩ := ob_g h
  rw [← hf1 g (by omega)] at hG
  refine LW_p C lf_175 rfl rfl ?_
  refine LW_c (a := f) (rest := []) (as := []) C lf_176 rfl (Nat.le_of_ble_eq_true rfl) (Nat.le_of_ble_eq_true rfl) hF e1 hce hso rfl ?_
  refine LW_p C lf_179 rfl rfl ?_
  refine LW_c (a := g) (rest := [.int v]) (as := []) C lf_180 rfl (Nat.le_of_ble_eq_true rfl) (Nat.le_of_ble_eq_true rfl) hG e2 hce hso rfl ?_
  exact LW_eq C lf_183 (kk mem2 hR)
theorem lb_2 (C : cx_m lt_m D dA 9 p s m #[Value.ref b] meth c) (hX : va_X b L xs s s.heap) (hbl : b < s.heap.size) (hbA : ¬ A b) (hce : ce ≤ room_1.cells) (hso : so ≤ room_1.slots) (hin : ∀ k : Nat, k < 7 → vp_in (i + nI k) L) (hfm : f + 83 ≤ g ∨ g + 19 ≤ f) (hc9 : n < 90000) (h : RR_r mem f g n) (kk : ∀ mem2 : Mem, RR_r mem2 f g (n + 1) → LW p l e s m b below meth c D dA A ce so Q 648 (lv4 b f g i) [] mem2) : LW p l e s m b below meth c D dA A ce so Q 188 (lv4 b f g i) [] mem := by
  obtain ⟨v, mem1, mem2, e1, e2, hR, hf1, -⟩ := st_sections h
  obtain ⟨fs, hF⟩ := ob_f h
  obtain ⟨gs, hG⟩ := ob_g h
  rw [← hf1 g (by omega)] at hG
  refine LW_p C lf_188 rfl rfl ?_
  refine LW_c (a := f) (rest := []) (as := []) C lf_189 rfl (Nat.le_of_ble_eq_true rfl) (Nat.le_of_ble_eq_true rfl) hF e1 hce hso rfl ?_
  refine LW_p C lf_192 rfl rfl ?_
  refine LW_c (a := g) (rest := [.int v]) (as := []) C lf_193 rfl (Nat.le_of_ble_eq_true rfl) (Nat.le_of_ble_eq_true rfl) hG e2 hce hso rfl ?_
  exact LW_eq C lf_196 (kk mem2 hR)
theorem lb_3 (C : cx_m lt_m D dA 9 p s m #[Value.ref b] meth c) (hX : va_X b L xs s s.heap) (hbl : b < s.heap.size) (hbA : ¬ A b) (hce : ce ≤ room_1.cells) (hso : so ≤ room_1.slots) (hin : ∀ k : Nat, k < 7 → vp_in (i + nI k) L) (hfm : f + 83 ≤ g ∨ g + 19 ≤ f) (hc9 : n < 90000) (h : RR_r mem f g n) (kk : ∀ mem2 : Mem, RR_r mem2 f g (n + 1) → LW p l e s m b below meth c D dA A ce so Q 648 (lv4 b f g i) [] mem2) : LW p l e s m b below meth c D dA A ce so Q 201 (lv4 b f g i) [] mem := by
  obtain ⟨v, mem1, mem2, e1, e2, hR, hf1, -⟩ := st_stable (d := xs (i + nI 1).toNatClampNeg) (c0 := xs (i + nI 2).toNatClampNeg) (c1 := xs (i + nI 3).toNatClampNeg) (c2 := xs (i + nI 4).toNatClampNeg) (c3 := xs (i + nI 5).toNatClampNeg) (c4 := xs (i + nI 6).toNatClampNeg) hfm h
  obtain ⟨fs, hF⟩ := ob_f h
  obtain ⟨gs, hG⟩ := ob_g h
  rw [← hf1 g (by omega)] at hG
  refine LW_p C lf_201 rfl rfl ?_
  refine LW_s C hX hbl hbA lf_202 lf_203 lf_204 rfl (fun _ => rfl) lf_205 lf_206 (hin 1 (by omega)) ?_
  refine LW_s C hX hbl hbA lf_207 lf_208 lf_209 rfl (fun _ => rfl) lf_210 lf_211 (hin 2 (by omega)) ?_
  refine LW_s C hX hbl hbA lf_212 lf_213 lf_214 rfl (fun _ => rfl) lf_215 lf_216 (hin 3 (by omega)) ?_
  refine LW_s C hX hbl hbA lf_217 lf_218 lf_219 rfl (fun _ => rfl) lf_220 lf_221 (hin 4 (by omega)) ?_
  refine LW_s C hX hbl hbA lf_222 lf_223 lf_224 rfl (fun _ => rfl) lf_225 lf_226 (hin 5 (by omega)) ?_
  refine LW_s C hX hbl hbA lf_227 lf_228 lf_229 rfl (fun _ => rfl) lf_231 lf_232 (hin 6 (by omega)) ?_
  refine LW_c (a := f) (rest := []) (as := [.int (xs (i + nI 1).toNatClampNeg), .int (xs (i + nI 2).toNatClampNeg), .int (xs (i + nI 3).toNatClampNeg), .int (xs (i + nI 4).toNatClampNeg), .int (xs (i + nI 5).toNatClampNeg), .int (xs (i + nI 6).toNatClampNeg)]) C lf_233 rfl (Nat.le_of_ble_eq_true rfl) (Nat.le_of_ble_eq_true rfl) hF e1 hce hso rfl ?_
  refine LW_p C lf_236 rfl rfl ?_
  refine LW_s C hX hbl hbA lf_237 lf_238 lf_239 rfl (fun _ => rfl) lf_240 lf_241 (hin 1 (by omega)) ?_
  refine LW_s C hX hbl hbA lf_242 lf_243 lf_244 rfl (fun _ => rfl) lf_245 lf_246 (hin 2 (by omega)) ?_
  refine LW_s C hX hbl hbA lf_247 lf_248 lf_249 rfl (fun _ => rfl) lf_250 lf_251 (hin 3 (by omega)) ?_
  refine LW_s C hX hbl hbA lf_252 lf_253 lf_254 rfl (fun _ => rfl) lf_255 lf_256 (hin 4 (by omega)) ?_
  refine LW_s C hX hbl hbA lf_257 lf_258 lf_259 rfl (fun _ => rfl) lf_260 lf_261 (hin 5 (by omega)) ?_
  refine LW_s C hX hbl hbA lf_262 lf_263 lf_264 rfl (fun _ => rfl) lf_266 lf_267 (hin 6 (by omega)) ?_
  refine LW_c (a := g) (rest := [.int v]) (as := [.int (xs (i + nI 1).toNatClampNeg), .int (xs (i + nI 2).toNatClampNeg), .int (xs (i + nI 3).toNatClampNeg), .int (xs (i + nI 4).toNatClampNeg), .int (xs (i + nI 5).toNatClampNeg), .int (xs (i + nI 6).toNatClampNeg)]) C lf_268 rfl (Nat.le_of_ble_eq_true rfl) (Nat.le_of_ble_eq_true rfl) hG e2 hce hso rfl ?_
  exact LW_eq C lf_271 (kk mem2 hR)
theorem lb_4 (C : cx_m lt_m D dA 9 p s m #[Value.ref b] meth c) (hX : va_X b L xs s s.heap) (hbl : b < s.heap.size) (hbA : ¬ A b) (hce : ce ≤ room_1.cells) (hso : so ≤ room_1.slots) (hin : ∀ k : Nat, k < 7 → vp_in (i + nI k) L) (hfm : f + 83 ≤ g ∨ g + 19 ≤ f) (hc9 : n < 90000) (h : RR_r mem f g n) (kk : ∀ mem2 : Mem, RR_r mem2 f g (n + 1) → LW p l e s m b below meth c D dA A ce so Q 648 (lv4 b f g i) [] mem2) : LW p l e s m b below meth c D dA A ce so Q 276 (lv4 b f g i) [] mem := by
  obtain ⟨v, mem1, mem2, e1, e2, hR, hf1, -⟩ := st_about (j := xs (i + nI 1).toNatClampNeg) (w := xs (i + nI 2).toNatClampNeg) hfm h
  obtain ⟨fs, hF⟩ := ob_f h
  obtain ⟨gs, hG⟩ := ob_g h
  rw [← hf1 g (by omega)] at hG
  refine LW_p C lf_276 rfl rfl ?_
  refine LW_s C hX hbl hbA lf_277 lf_278 lf_279 rfl (fun _ => rfl) lf_280 lf_281 (hin 1 (by omega)) ?_
  refine LW_s C hX hbl hbA lf_282 lf_283 lf_284 rfl (fun _ => rfl) lf_285 lf_286 (hin 2 (by omega)) ?_
  refine LW_c (a := f) (rest := []) (as := [.int (xs (i + nI 1).toNatClampNeg), .int (xs (i + nI 2).toNatClampNeg)]) C lf_287 rfl (Nat.le_of_ble_eq_true rfl) (Nat.le_of_ble_eq_true rfl) hF e1 hce hso rfl ?_
  refine LW_p C lf_290 rfl rfl ?_
  refine LW_s C hX hbl hbA lf_291 lf_292 lf_293 rfl (fun _ => rfl) lf_294 lf_295 (hin 1 (by omega)) ?_
  refine LW_s C hX hbl hbA lf_296 lf_297 lf_298 rfl (fun _ => rfl) lf_299 lf_300 (hin 2 (by omega)) ?_
  refine LW_c (a := g) (rest := [.long v]) (as := [.int (xs (i + nI 1).toNatClampNeg), .int (xs (i + nI 2).toNatClampNeg)]) C lf_301 rfl (Nat.le_of_ble_eq_true rfl) (Nat.le_of_ble_eq_true rfl) hG e2 hce hso rfl ?_
  exact LW_lq C lf_304 lf_305 (kk mem2 hR)
theorem lb_5 (C : cx_m lt_m D dA 9 p s m #[Value.ref b] meth c) (hX : va_X b L xs s s.heap) (hbl : b < s.heap.size) (hbA : ¬ A b) (hce : ce ≤ room_1.cells) (hso : so ≤ room_1.slots) (hin : ∀ k : Nat, k < 7 → vp_in (i + nI k) L) (hfm : f + 83 ≤ g ∨ g + 19 ≤ f) (hc9 : n < 90000) (h : RR_r mem f g n) (kk : ∀ mem2 : Mem, RR_r mem2 f g (n + 1) → LW p l e s m b below meth c D dA A ce so Q 648 (lv4 b f g i) [] mem2) : LW p l e s m b below meth c D dA A ce so Q 310 (lv4 b f g i) [] mem := by
  obtain ⟨v, mem1, mem2, e1, e2, hR, hf1, -⟩ := st_echo (j := xs (i + nI 1).toNatClampNeg) (nn := xs (i + nI 2).toNatClampNeg) (w := xs (i + nI 3).toNatClampNeg) hfm h
  obtain ⟨fs, hF⟩ := ob_f h
  obtain ⟨gs, hG⟩ := ob_g h
  rw [← hf1 g (by omega)] at hG
  refine LW_p C lf_310 rfl rfl ?_
  refine LW_s C hX hbl hbA lf_311 lf_312 lf_313 rfl (fun _ => rfl) lf_314 lf_315 (hin 1 (by omega)) ?_
  refine LW_s C hX hbl hbA lf_316 lf_317 lf_318 rfl (fun _ => rfl) lf_319 lf_320 (hin 2 (by omega)) ?_
  refine LW_s C hX hbl hbA lf_321 lf_322 lf_323 rfl (fun _ => rfl) lf_324 lf_325 (hin 3 (by omega)) ?_
  refine LW_c (a := f) (rest := []) (as := [.int (xs (i + nI 1).toNatClampNeg), .int (xs (i + nI 2).toNatClampNeg), .int (xs (i + nI 3).toNatClampNeg)]) C lf_326 rfl (Nat.le_of_ble_eq_true rfl) (Nat.le_of_ble_eq_true rfl) hF e1 hce hso rfl ?_
  refine LW_p C lf_329 rfl rfl ?_
  refine LW_s C hX hbl hbA lf_330 lf_331 lf_332 rfl (fun _ => rfl) lf_333 lf_334 (hin 1 (by omega)) ?_
  refine LW_s C hX hbl hbA lf_335 lf_336 lf_337 rfl (fun _ => rfl) lf_338 lf_339 (hin 2 (by omega)) ?_
  refine LW_s C hX hbl hbA lf_340 lf_341 lf_342 rfl (fun _ => rfl) lf_343 lf_344 (hin 3 (by omega)) ?_
  refine LW_c (a := g) (rest := [.long v]) (as := [.int (xs (i + nI 1).toNatClampNeg), .int (xs (i + nI 2).toNatClampNeg), .int (xs (i + nI 3).toNatClampNeg)]) C lf_345 rfl (Nat.le_of_ble_eq_true rfl) (Nat.le_of_ble_eq_true rfl) hG e2 hce hso rfl ?_
  exact LW_lq C lf_348 lf_349 (kk mem2 hR)
theorem lb_6 (C : cx_m lt_m D dA 9 p s m #[Value.ref b] meth c) (hX : va_X b L xs s s.heap) (hbl : b < s.heap.size) (hbA : ¬ A b) (hce : ce ≤ room_1.cells) (hso : so ≤ room_1.slots) (hin : ∀ k : Nat, k < 7 → vp_in (i + nI k) L) (hfm : f + 83 ≤ g ∨ g + 19 ≤ f) (hc9 : n < 90000) (h : RR_r mem f g n) (kk : ∀ mem2 : Mem, RR_r mem2 f g (n + 1) → LW p l e s m b below meth c D dA A ce so Q 648 (lv4 b f g i) [] mem2) : LW p l e s m b below meth c D dA A ce so Q 354 (lv4 b f g i) [] mem := by
  obtain ⟨v, mem1, mem2, e1, e2, hR, hf1, -⟩ := st_plan (w := xs (i + nI 1).toNatClampNeg) (k := xs (i + nI 2).toNatClampNeg) (way := xs (i + nI 3).toNatClampNeg) hfm h
  obtain ⟨fs, hF⟩ := ob_f h
  obtain ⟨gs, hG⟩ := ob_g h
  rw [← hf1 g (by omega)] at hG
  refine LW_p C lf_354 rfl rfl ?_
  refine LW_s C hX hbl hbA lf_355 lf_356 lf_357 rfl (fun _ => rfl) lf_358 lf_359 (hin 1 (by omega)) ?_
  refine LW_s C hX hbl hbA lf_360 lf_361 lf_362 rfl (fun _ => rfl) lf_363 lf_364 (hin 2 (by omega)) ?_
  refine LW_s C hX hbl hbA lf_365 lf_366 lf_367 rfl (fun _ => rfl) lf_368 lf_369 (hin 3 (by omega)) ?_
  refine LW_c (a := f) (rest := []) (as := [.int (xs (i + nI 1).toNatClampNeg), .int (xs (i + nI 2).toNatClampNeg), .int (xs (i + nI 3).toNatClampNeg)]) C lf_370 rfl (Nat.le_of_ble_eq_true rfl) (Nat.le_of_ble_eq_true rfl) hF e1 hce hso rfl ?_
  refine LW_p C lf_373 rfl rfl ?_
  refine LW_s C hX hbl hbA lf_374 lf_375 lf_376 rfl (fun _ => rfl) lf_377 lf_378 (hin 1 (by omega)) ?_
  refine LW_s C hX hbl hbA lf_379 lf_380 lf_381 rfl (fun _ => rfl) lf_382 lf_383 (hin 2 (by omega)) ?_
  refine LW_s C hX hbl hbA lf_384 lf_385 lf_386 rfl (fun _ => rfl) lf_387 lf_388 (hin 3 (by omega)) ?_
  refine LW_c (a := g) (rest := [.int v]) (as := [.int (xs (i + nI 1).toNatClampNeg), .int (xs (i + nI 2).toNatClampNeg), .int (xs (i + nI 3).toNatClampNeg)]) C lf_389 rfl (Nat.le_of_ble_eq_true rfl) (Nat.le_of_ble_eq_true rfl) hG e2 hce hso rfl ?_
  exact LW_eq C lf_392 (kk mem2 hR)
theorem lb_7 (C : cx_m lt_m D dA 9 p s m #[Value.ref b] meth c) (hX : va_X b L xs s s.heap) (hbl : b < s.heap.size) (hbA : ¬ A b) (hce : ce ≤ room_1.cells) (hso : so ≤ room_1.slots) (hin : ∀ k : Nat, k < 7 → vp_in (i + nI k) L) (hfm : f + 83 ≤ g ∨ g + 19 ≤ f) (hc9 : n < 90000) (h : RR_r mem f g n) (kk : ∀ mem2 : Mem, RR_r mem2 f g (n + 1) → LW p l e s m b below meth c D dA A ce so Q 648 (lv4 b f g i) [] mem2) : LW p l e s m b below meth c D dA A ce so Q 397 (lv4 b f g i) [] mem := by
  obtain ⟨v, mem1, mem2, e1, e2, hR, hf1, -⟩ := st_planned (j := xs (i + nI 1).toNatClampNeg) (w := xs (i + nI 2).toNatClampNeg) h
  obtain ⟨fs, hF⟩ := ob_f h
  obtain ⟨gs, hG⟩ := ob_g h
  rw [← hf1 g (by omega)] at hG
  refine LW_p C lf_397 rfl rfl ?_
  refine LW_s C hX hbl hbA lf_398 lf_399 lf_400 rfl (fun _ => rfl) lf_401 lf_402 (hin 1 (by omega)) ?_
  refine LW_s C hX hbl hbA lf_403 lf_404 lf_405 rfl (fun _ => rfl) lf_406 lf_407 (hin 2 (by omega)) ?_
  refine LW_c (a := f) (rest := []) (as := [.int (xs (i + nI 1).toNatClampNeg), .int (xs (i + nI 2).toNatClampNeg)]) C lf_408 rfl (Nat.le_of_ble_eq_true rfl) (Nat.le_of_ble_eq_true rfl) hF e1 hce hso rfl ?_
  refine LW_p C lf_411 rfl rfl ?_
  refine LW_s C hX hbl hbA lf_412 lf_413 lf_414 rfl (fun _ => rfl) lf_415 lf_416 (hin 1 (by omega)) ?_
  refine LW_s C hX hbl hbA lf_417 lf_418 lf_419 rfl (fun _ => rfl) lf_420 lf_421 (hin 2 (by omega)) ?_
  refine LW_c (a := g) (rest := [.long v]) (as := [.int (xs (i + nI 1).toNatClampNeg), .int (xs (i + nI 2).toNatClampNeg)]) C lf_422 rfl (Nat.le_of_ble_eq_true rfl) (Nat.le_of_ble_eq_true rfl) hG e2 hce hso rfl ?_
  exact LW_lq C lf_425 lf_426 (kk mem2 hR)
theorem lb_8 (C : cx_m lt_m D dA 9 p s m #[Value.ref b] meth c) (hX : va_X b L xs s s.heap) (hbl : b < s.heap.size) (hbA : ¬ A b) (hce : ce ≤ room_1.cells) (hso : so ≤ room_1.slots) (hin : ∀ k : Nat, k < 7 → vp_in (i + nI k) L) (hfm : f + 83 ≤ g ∨ g + 19 ≤ f) (hc9 : n < 90000) (h : RR_r mem f g n) (kk : ∀ mem2 : Mem, RR_r mem2 f g (n + 1) → LW p l e s m b below meth c D dA A ce so Q 648 (lv4 b f g i) [] mem2) : LW p l e s m b below meth c D dA A ce so Q 431 (lv4 b f g i) [] mem := by
  obtain ⟨v, mem1, mem2, e1, e2, hR, hf1, -⟩ := st_forge (j := xs (i + nI 1).toNatClampNeg) (w := xs (i + nI 2).toNatClampNeg) (v := (xs (i + nI 3).toNatClampNeg).toInt64 <<< ((nI 32).toInt64 &&& 63) ||| (xs (i + nI 4).toNatClampNeg).toInt64 &&& 4294967295) hfm h
  obtain ⟨fs, hF⟩ := ob_f h
  obtain ⟨gs, hG⟩ := ob_g h
  rw [← hf1 g (by omega)] at hG
  refine LW_p C lf_431 rfl rfl ?_
  refine LW_s C hX hbl hbA lf_432 lf_433 lf_434 rfl (fun _ => rfl) lf_435 lf_436 (hin 1 (by omega)) ?_
  refine LW_s C hX hbl hbA lf_437 lf_438 lf_439 rfl (fun _ => rfl) lf_440 lf_441 (hin 2 (by omega)) ?_
  refine LW_s C hX hbl hbA lf_442 lf_443 lf_444 rfl (fun _ => rfl) lf_445 lf_446 (hin 3 (by omega)) ?_
  refine LW_p C lf_447 rfl rfl ?_
  refine LW_p C lf_448 rfl rfl ?_
  refine LW_p C lf_450 rfl rfl ?_
  refine LW_s C hX hbl hbA lf_451 lf_452 lf_453 rfl (fun _ => rfl) lf_454 lf_455 (hin 4 (by omega)) ?_
  refine LW_p C lf_456 rfl rfl ?_
  refine LW_p C lf_457 rfl rfl ?_
  refine LW_p C lf_460 rfl rfl ?_
  refine LW_p C lf_461 rfl rfl ?_
  refine LW_c (a := f) (rest := []) (as := [.int (xs (i + nI 1).toNatClampNeg), .int (xs (i + nI 2).toNatClampNeg), .long ((xs (i + nI 3).toNatClampNeg).toInt64 <<< ((nI 32).toInt64 &&& 63) ||| (xs (i + nI 4).toNatClampNeg).toInt64 &&& 4294967295)]) C lf_462 rfl (Nat.le_of_ble_eq_true rfl) (Nat.le_of_ble_eq_true rfl) hF e1 hce hso rfl ?_
  refine LW_p C lf_465 rfl rfl ?_
  refine LW_s C hX hbl hbA lf_466 lf_467 lf_468 rfl (fun _ => rfl) lf_469 lf_470 (hin 1 (by omega)) ?_
  refine LW_s C hX hbl hbA lf_471 lf_472 lf_473 rfl (fun _ => rfl) lf_474 lf_475 (hin 2 (by omega)) ?_
  refine LW_s C hX hbl hbA lf_476 lf_477 lf_478 rfl (fun _ => rfl) lf_479 lf_480 (hin 3 (by omega)) ?_
  refine LW_p C lf_481 rfl rfl ?_
  refine LW_p C lf_482 rfl rfl ?_
  refine LW_p C lf_484 rfl rfl ?_
  refine LW_s C hX hbl hbA lf_485 lf_486 lf_487 rfl (fun _ => rfl) lf_488 lf_489 (hin 4 (by omega)) ?_
  refine LW_p C lf_490 rfl rfl ?_
  refine LW_p C lf_491 rfl rfl ?_
  refine LW_p C lf_494 rfl rfl ?_
  refine LW_p C lf_495 rfl rfl ?_
  refine LW_c (a := g) (rest := [.int v]) (as := [.int (xs (i + nI 1).toNatClampNeg), .int (xs (i + nI 2).toNatClampNeg), .long ((xs (i + nI 3).toNatClampNeg).toInt64 <<< ((nI 32).toInt64 &&& 63) ||| (xs (i + nI 4).toNatClampNeg).toInt64 &&& 4294967295)]) C lf_496 rfl (Nat.le_of_ble_eq_true rfl) (Nat.le_of_ble_eq_true rfl) hG e2 hce hso rfl ?_
  exact LW_eq C lf_499 (kk mem2 hR)
theorem lb_9 (C : cx_m lt_m D dA 9 p s m #[Value.ref b] meth c) (hX : va_X b L xs s s.heap) (hbl : b < s.heap.size) (hbA : ¬ A b) (hce : ce ≤ room_1.cells) (hso : so ≤ room_1.slots) (hin : ∀ k : Nat, k < 7 → vp_in (i + nI k) L) (hfm : f + 83 ≤ g ∨ g + 19 ≤ f) (hc9 : n < 90000) (h : RR_r mem f g n) (kk : ∀ mem2 : Mem, RR_r mem2 f g (n + 1) → LW p l e s m b below meth c D dA A ce so Q 648 (lv4 b f g i) [] mem2) : LW p l e s m b below meth c D dA A ce so Q 504 (lv4 b f g i) [] mem := by
  obtain ⟨v, mem1, mem2, e1, e2, hR, hf1, -⟩ := st_check hfm h
  obtain ⟨fs, hF⟩ := ob_f h
  obtain ⟨gs, hG⟩ := ob_g h
  rw [← hf1 g (by omega)] at hG
  refine LW_p C lf_504 rfl rfl ?_
  refine LW_c (a := f) (rest := []) (as := []) C lf_505 rfl (Nat.le_of_ble_eq_true rfl) (Nat.le_of_ble_eq_true rfl) hF e1 hce hso rfl ?_
  refine LW_p C lf_508 rfl rfl ?_
  refine LW_c (a := g) (rest := [.int v]) (as := []) C lf_509 rfl (Nat.le_of_ble_eq_true rfl) (Nat.le_of_ble_eq_true rfl) hG e2 hce hso rfl ?_
  exact LW_eq C lf_512 (kk mem2 hR)
theorem lb_10 (C : cx_m lt_m D dA 9 p s m #[Value.ref b] meth c) (hX : va_X b L xs s s.heap) (hbl : b < s.heap.size) (hbA : ¬ A b) (hce : ce ≤ room_1.cells) (hso : so ≤ room_1.slots) (hin : ∀ k : Nat, k < 7 → vp_in (i + nI k) L) (hfm : f + 83 ≤ g ∨ g + 19 ≤ f) (hc9 : n < 90000) (h : RR_r mem f g n) (kk : ∀ mem2 : Mem, RR_r mem2 f g (n + 1) → LW p l e s m b below meth c D dA A ce so Q 648 (lv4 b f g i) [] mem2) : LW p l e s m b below meth c D dA A ce so Q 517 (lv4 b f g i) [] mem := by
  obtain ⟨v, mem1, mem2, e1, e2, hR, hf1, -⟩ := st_told (w := xs (i + nI 1).toNatClampNeg) h
  obtain ⟨fs, hF⟩ := ob_f h
  obtain ⟨gs, hG⟩ := ob_g h
  rw [← hf1 g (by omega)] at hG
  refine LW_p C lf_517 rfl rfl ?_
  refine LW_s C hX hbl hbA lf_518 lf_519 lf_520 rfl (fun _ => rfl) lf_521 lf_522 (hin 1 (by omega)) ?_
  refine LW_c (a := f) (rest := []) (as := [.int (xs (i + nI 1).toNatClampNeg)]) C lf_523 rfl (Nat.le_of_ble_eq_true rfl) (Nat.le_of_ble_eq_true rfl) hF e1 hce hso rfl ?_
  refine LW_p C lf_526 rfl rfl ?_
  refine LW_s C hX hbl hbA lf_527 lf_528 lf_529 rfl (fun _ => rfl) lf_530 lf_531 (hin 1 (by omega)) ?_
  refine LW_c (a := g) (rest := [.int v]) (as := [.int (xs (i + nI 1).toNatClampNeg)]) C lf_532 rfl (Nat.le_of_ble_eq_true rfl) (Nat.le_of_ble_eq_true rfl) hG e2 hce hso rfl ?_
  exact LW_eq C lf_535 (kk mem2 hR)
theorem lb_11 (C : cx_m lt_m D dA 9 p s m #[Value.ref b] meth c) (hX : va_X b L xs s s.heap) (hbl : b < s.heap.size) (hbA : ¬ A b) (hce : ce ≤ room_1.cells) (hso : so ≤ room_1.slots) (hin : ∀ k : Nat, k < 7 → vp_in (i + nI k) L) (hfm : f + 83 ≤ g ∨ g + 19 ≤ f) (hc9 : n < 90000) (h : RR_r mem f g n) (kk : ∀ mem2 : Mem, RR_r mem2 f g (n + 1) → LW p l e s m b below meth c D dA A ce so Q 648 (lv4 b f g i) [] mem2) : LW p l e s m b below meth c D dA A ce so Q 540 (lv4 b f g i) [] mem := by
  obtain ⟨v, mem1, mem2, e1, e2, hR, hf1, -⟩ := st_sample (x := xs (i + nI 1).toNatClampNeg) hc9 hfm h
  obtain ⟨fs, hF⟩ := ob_f h
  obtain ⟨gs, hG⟩ := ob_g h
  rw [← hf1 g (by omega)] at hG
  refine LW_p C lf_540 rfl rfl ?_
  refine LW_s C hX hbl hbA lf_541 lf_542 lf_543 rfl (fun _ => rfl) lf_544 lf_545 (hin 1 (by omega)) ?_
  refine LW_c (a := f) (rest := []) (as := [.int (xs (i + nI 1).toNatClampNeg)]) C lf_546 rfl (Nat.le_of_ble_eq_true rfl) (Nat.le_of_ble_eq_true rfl) hF e1 hce hso rfl ?_
  refine LW_p C lf_549 rfl rfl ?_
  refine LW_s C hX hbl hbA lf_550 lf_551 lf_552 rfl (fun _ => rfl) lf_553 lf_554 (hin 1 (by omega)) ?_
  refine LW_c (a := g) (rest := [.long v]) (as := [.int (xs (i + nI 1).toNatClampNeg)]) C lf_555 rfl (Nat.le_of_ble_eq_true rfl) (Nat.le_of_ble_eq_true rfl) hG e2 hce hso rfl ?_
  exact LW_lq C lf_558 lf_559 (kk mem2 hR)
theorem lb_12 (C : cx_m lt_m D dA 9 p s m #[Value.ref b] meth c) (hX : va_X b L xs s s.heap) (hbl : b < s.heap.size) (hbA : ¬ A b) (hce : ce ≤ room_1.cells) (hso : so ≤ room_1.slots) (hin : ∀ k : Nat, k < 7 → vp_in (i + nI k) L) (hfm : f + 83 ≤ g ∨ g + 19 ≤ f) (hc9 : n < 90000) (h : RR_r mem f g n) (kk : ∀ mem2 : Mem, RR_r mem2 f g (n + 1) → LW p l e s m b below meth c D dA A ce so Q 648 (lv4 b f g i) [] mem2) : LW p l e s m b below meth c D dA A ce so Q 564 (lv4 b f g i) [] mem := by
  obtain ⟨v, mem1, mem2, e1, e2, hR, hf1, -⟩ := st_kept (j := xs (i + nI 1).toNatClampNeg) (w := xs (i + nI 2).toNatClampNeg) h
  obtain ⟨fs, hF⟩ := ob_f h
  obtain ⟨gs, hG⟩ := ob_g h
  rw [← hf1 g (by omega)] at hG
  refine LW_p C lf_564 rfl rfl ?_
  refine LW_s C hX hbl hbA lf_565 lf_566 lf_567 rfl (fun _ => rfl) lf_568 lf_569 (hin 1 (by omega)) ?_
  refine LW_s C hX hbl hbA lf_570 lf_571 lf_572 rfl (fun _ => rfl) lf_573 lf_574 (hin 2 (by omega)) ?_
  refine LW_c (a := f) (rest := []) (as := [.int (xs (i + nI 1).toNatClampNeg), .int (xs (i + nI 2).toNatClampNeg)]) C lf_575 rfl (Nat.le_of_ble_eq_true rfl) (Nat.le_of_ble_eq_true rfl) hF e1 hce hso rfl ?_
  refine LW_p C lf_578 rfl rfl ?_
  refine LW_s C hX hbl hbA lf_579 lf_580 lf_581 rfl (fun _ => rfl) lf_582 lf_583 (hin 1 (by omega)) ?_
  refine LW_s C hX hbl hbA lf_584 lf_585 lf_586 rfl (fun _ => rfl) lf_587 lf_588 (hin 2 (by omega)) ?_
  refine LW_c (a := g) (rest := [.long v]) (as := [.int (xs (i + nI 1).toNatClampNeg), .int (xs (i + nI 2).toNatClampNeg)]) C lf_589 rfl (Nat.le_of_ble_eq_true rfl) (Nat.le_of_ble_eq_true rfl) hG e2 hce hso rfl ?_
  exact LW_lq C lf_592 lf_593 (kk mem2 hR)
theorem lb_13 (C : cx_m lt_m D dA 9 p s m #[Value.ref b] meth c) (hX : va_X b L xs s s.heap) (hbl : b < s.heap.size) (hbA : ¬ A b) (hce : ce ≤ room_1.cells) (hso : so ≤ room_1.slots) (hin : ∀ k : Nat, k < 7 → vp_in (i + nI k) L) (hfm : f + 83 ≤ g ∨ g + 19 ≤ f) (hc9 : n < 90000) (h : RR_r mem f g n) (kk : ∀ mem2 : Mem, RR_r mem2 f g (n + 1) → LW p l e s m b below meth c D dA A ce so Q 648 (lv4 b f g i) [] mem2) : LW p l e s m b below meth c D dA A ce so Q 598 (lv4 b f g i) [] mem := by
  obtain ⟨v, mem1, mem2, e1, e2, hR, hf1, -⟩ := st_drift hc9 hfm h
  obtain ⟨fs, hF⟩ := ob_f h
  obtain ⟨gs, hG⟩ := ob_g h
  rw [← hf1 g (by omega)] at hG
  refine LW_p C lf_598 rfl rfl ?_
  refine LW_c (a := f) (rest := []) (as := []) C lf_599 rfl (Nat.le_of_ble_eq_true rfl) (Nat.le_of_ble_eq_true rfl) hF e1 hce hso rfl ?_
  refine LW_p C lf_602 rfl rfl ?_
  refine LW_c (a := g) (rest := [.long v]) (as := []) C lf_603 rfl (Nat.le_of_ble_eq_true rfl) (Nat.le_of_ble_eq_true rfl) hG e2 hce hso rfl ?_
  exact LW_lq C lf_606 lf_607 (kk mem2 hR)
theorem lb_14 (C : cx_m lt_m D dA 9 p s m #[Value.ref b] meth c) (hX : va_X b L xs s s.heap) (hbl : b < s.heap.size) (hbA : ¬ A b) (hce : ce ≤ room_1.cells) (hso : so ≤ room_1.slots) (hin : ∀ k : Nat, k < 7 → vp_in (i + nI k) L) (hfm : f + 83 ≤ g ∨ g + 19 ≤ f) (hc9 : n < 90000) (h : RR_r mem f g n) (kk : ∀ mem2 : Mem, RR_r mem2 f g (n + 1) → LW p l e s m b below meth c D dA A ce so Q 648 (lv4 b f g i) [] mem2) : LW p l e s m b below meth c D dA A ce so Q 612 (lv4 b f g i) [] mem := by
  obtain ⟨v, mem1, mem2, e1, e2, hR, hf1, -⟩ := st_exact (i := xs (i + nI 1).toNatClampNeg) hc9 hfm h
  obtain ⟨fs, hF⟩ := ob_f h
  obtain ⟨gs, hG⟩ := ob_g h
  rw [← hf1 g (by omega)] at hG
  refine LW_p C lf_612 rfl rfl ?_
  refine LW_s C hX hbl hbA lf_613 lf_614 lf_615 rfl (fun _ => rfl) lf_616 lf_617 (hin 1 (by omega)) ?_
  refine LW_c (a := f) (rest := []) (as := [.int (xs (i + nI 1).toNatClampNeg)]) C lf_618 rfl (Nat.le_of_ble_eq_true rfl) (Nat.le_of_ble_eq_true rfl) hF e1 hce hso rfl ?_
  refine LW_p C lf_621 rfl rfl ?_
  refine LW_s C hX hbl hbA lf_622 lf_623 lf_624 rfl (fun _ => rfl) lf_625 lf_626 (hin 1 (by omega)) ?_
  refine LW_c (a := g) (rest := [.int v]) (as := [.int (xs (i + nI 1).toNatClampNeg)]) C lf_627 rfl (Nat.le_of_ble_eq_true rfl) (Nat.le_of_ble_eq_true rfl) hG e2 hce hso rfl ?_
  exact LW_eq C lf_630 (kk mem2 hR)
theorem lb_15 (C : cx_m lt_m D dA 9 p s m #[Value.ref b] meth c) (hX : va_X b L xs s s.heap) (hbl : b < s.heap.size) (hbA : ¬ A b) (hce : ce ≤ room_1.cells) (hso : so ≤ room_1.slots) (hin : ∀ k : Nat, k < 7 → vp_in (i + nI k) L) (hfm : f + 83 ≤ g ∨ g + 19 ≤ f) (hc9 : n < 90000) (h : RR_r mem f g n) (kk : ∀ mem2 : Mem, RR_r mem2 f g (n + 1) → LW p l e s m b below meth c D dA A ce so Q 648 (lv4 b f g i) [] mem2) : LW p l e s m b below meth c D dA A ce so Q 635 (lv4 b f g i) [] mem := by
  obtain ⟨v, mem1, mem2, e1, e2, hR, hf1, -⟩ := st_quiet hfm h
  obtain ⟨fs, hF⟩ := ob_f h
  obtain ⟨gs, hG⟩ := ob_g h
  rw [← hf1 g (by omega)] at hG
  refine LW_p C lf_635 rfl rfl ?_
  refine LW_c (a := f) (rest := []) (as := []) C lf_636 rfl (Nat.le_of_ble_eq_true rfl) (Nat.le_of_ble_eq_true rfl) hF e1 hce hso rfl ?_
  refine LW_p C lf_639 rfl rfl ?_
  refine LW_c (a := g) (rest := [.int v]) (as := []) C lf_640 rfl (Nat.le_of_ble_eq_true rfl) (Nat.le_of_ble_eq_true rfl) hG e2 hce hso rfl ?_
  exact LW_eq C lf_643 (kk mem2 hR)
end BLK

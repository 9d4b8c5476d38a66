/-! the law's cases, printed by wip/whole/gen_law.py -/
section LC
variable {p : Program} {l : Launch} {e : Env} {s : State} {m : MethodId} {below : List Frame} {meth : Method} {c : Code} {H : Heap} {locs : List Loc} {cells slots : Nat} {Q : State → Prop} {b L : Nat} {xs : Nat → Int32} {D : va_G} {cI : ClassId} {A : Nat → Prop} {U V : Nat → Nat} {i : Nat} {ls : Array Slot}
def lzG (p : Program) (l : Launch) (e : Env) (s : State) (m : MethodId) (below : List Frame) (meth : Method) (c : Code) (Q : State → Prop) (b : Nat) (D : va_G) (cI : ClassId) (A : Nat → Prop) (U V : Nat → Nat) (ls : Array Slot) (cells slots : Nat) (pc : Nat) : Prop := ∀ (S : SG) (H : Heap) (locs : List Loc), lzI S D cI A H U V → va_S A s.heap H locs → W p l e room_1 s m #[Value.ref b] below meth c H locs cells slots Q (F0 m pc ls [])
set_option maxHeartbeats 1000000 in
set_option maxRecDepth 20000 in
theorem lc_0 (E : lzE p s m meth c b L xs D cI A U V i ls cells slots) (kk : lzG p l e s m below meth c Q b D cI A U V ls cells slots 804) : lzG p l e s m below meth c Q b D cI A U V ls cells slots 148 := by
  intro S H locs hI hS
  obtain ⟨X, N, a, s1, rx, rm, hP, hD⟩ := hI
  obtain ⟨hx, hb, -, -, -, -, -, -, -, -⟩ := id E.1
  have hl := E.2.2.2.2.2.2.2.1
  refine lv_aload_n hx hb dlaw_148 rfl (lv_at hl 1 rfl) ?_
  refine lz_ld E hS 1 (by decide) rfl dlaw_149 dlaw_150 dlaw_151 dlaw_152 dlaw_153 ?_
  refine lz_call E hP hD hS (c0 := nX5_feed) (as := [.int (xs (i + 1))]) (rest := []) rfl (by decide) rfl (xT_in 215 (by rfl) rfl) rfl rfl rfl pX5_feed (x_feed 0 rx (xs (i + 1))) rfl (Nat.le_of_ble_eq_true rfl) (Nat.le_of_ble_eq_true rfl) dlaw_154 (fun v ws H locs hp hP hD hS => ?_)
  obtain ⟨rfl, X1, N1, rx1, rfl⟩ := hp
  have hP := ap_swP hP
  have hD := ap_swD hD
  refine lv_aload_n hx hb dlaw_157 rfl (lv_at hl 2 rfl) ?_
  refine lz_ld E hS 1 (by decide) rfl dlaw_158 dlaw_159 dlaw_160 dlaw_161 dlaw_162 ?_
  refine lz_call E hP hD hS (Post := pMs (spFeed S (xs (i + 1)))) (c0 := nX6_feed) (as := [.int (xs (i + 1))]) (rest := [.int _]) rfl (by decide) rfl (xT_in 714 (by rfl) rfl) rfl rfl rfl pX6_feed (m_feed 0 rm (xs (i + 1))) rfl (Nat.le_of_ble_eq_true rfl) (Nat.le_of_ble_eq_true rfl) dlaw_163 (fun v ws H locs hp hP hD hS => ?_)
  obtain ⟨rfl, a1, s2, rm1, rfl⟩ := hp
  exact lv_icmp_eq (tgt := 804) hx hb dlaw_166 (by decide) (fun _ => kk _ _ _ ⟨X1, N1, a1, s2, rx1, rm1, ap_swP hP, ap_swD hD⟩ hS) (fun h => absurd rfl h)
set_option maxHeartbeats 1000000 in
set_option maxRecDepth 20000 in
theorem lc_1 (E : lzE p s m meth c b L xs D cI A U V i ls cells slots) (kk : lzG p l e s m below meth c Q b D cI A U V ls cells slots 804) : lzG p l e s m below meth c Q b D cI A U V ls cells slots 171 := by
  intro S H locs hI hS
  obtain ⟨X, N, a, s1, rx, rm, hP, hD⟩ := hI
  obtain ⟨hx, hb, -, -, -, -, -, -, -, -⟩ := id E.1
  have hl := E.2.2.2.2.2.2.2.1
  refine lv_aload_n hx hb dlaw_171 rfl (lv_at hl 1 rfl) ?_
  refine lz_call E hP hD hS (c0 := nX5_lantern) (as := []) (rest := []) rfl (by decide) rfl (xT_in 235 (by rfl) rfl) rfl rfl rfl pX5_lantern (x_lantern 0 rx) rfl (Nat.le_of_ble_eq_true rfl) (Nat.le_of_ble_eq_true rfl) dlaw_172 (fun v ws H locs hp hP hD hS => ?_)
  obtain ⟨rfl, X1, N1, rx1, rfl⟩ := hp
  have hP := ap_swP hP
  have hD := ap_swD hD
  refine lv_aload_n hx hb dlaw_175 rfl (lv_at hl 2 rfl) ?_
  refine lz_call E hP hD hS (c0 := nX6_lantern) (as := []) (rest := [.int _]) rfl (by decide) rfl (xT_in 725 (by rfl) rfl) rfl rfl rfl pX6_lantern (m_lantern 0 rm) rfl (Nat.le_of_ble_eq_true rfl) (Nat.le_of_ble_eq_true rfl) dlaw_176 (fun v ws H locs hp hP hD hS => ?_)
  obtain ⟨rfl, a1, s2, rm1, rfl⟩ := hp
  exact lv_icmp_eq (tgt := 804) hx hb dlaw_179 (by decide) (fun _ => kk _ _ _ ⟨X1, N1, a1, s2, rx1, rm1, ap_swP hP, ap_swD hD⟩ hS) (fun h => absurd rfl h)
set_option maxHeartbeats 1000000 in
set_option maxRecDepth 20000 in
theorem lc_2 (E : lzE p s m meth c b L xs D cI A U V i ls cells slots) (kk : lzG p l e s m below meth c Q b D cI A U V ls cells slots 804) : lzG p l e s m below meth c Q b D cI A U V ls cells slots 184 := by
  intro S H locs hI hS
  obtain ⟨X, N, a, s1, rx, rm, hP, hD⟩ := hI
  obtain ⟨hx, hb, -, -, -, -, -, -, -, -⟩ := id E.1
  have hl := E.2.2.2.2.2.2.2.1
  refine lv_aload_n hx hb dlaw_184 rfl (lv_at hl 1 rfl) ?_
  refine lz_ld E hS 1 (by decide) rfl dlaw_185 dlaw_186 dlaw_187 dlaw_188 dlaw_189 ?_
  refine lz_ld E hS 2 (by decide) rfl dlaw_190 dlaw_191 dlaw_192 dlaw_193 dlaw_194 ?_
  refine lz_call E hP hD hS (c0 := nX5_slide) (as := [.int (xs (i + 1)), .int (xs (i + 2))]) (rest := []) rfl (by decide) rfl (xT_in 296 (by rfl) rfl) rfl rfl rfl pX5_slide (x_slide 0 rx (xs (i + 1)) (xs (i + 2))) rfl (Nat.le_of_ble_eq_true rfl) (Nat.le_of_ble_eq_true rfl) dlaw_195 (fun v ws H locs hp hP hD hS => ?_)
  obtain ⟨rfl, X1, N1, rx1, rfl⟩ := hp
  have hP := ap_swP hP
  have hD := ap_swD hD
  refine lv_aload_n hx hb dlaw_198 rfl (lv_at hl 2 rfl) ?_
  refine lz_ld E hS 1 (by decide) rfl dlaw_199 dlaw_200 dlaw_201 dlaw_202 dlaw_203 ?_
  refine lz_ld E hS 2 (by decide) rfl dlaw_204 dlaw_205 dlaw_206 dlaw_207 dlaw_208 ?_
  refine lz_call E hP hD hS (c0 := nX6_slide) (as := [.int (xs (i + 1)), .int (xs (i + 2))]) (rest := [.int _]) rfl (by decide) rfl (xT_in 776 (by rfl) rfl) rfl rfl rfl pX6_slide (m_slide 0 rm (xs (i + 1)) (xs (i + 2))) rfl (Nat.le_of_ble_eq_true rfl) (Nat.le_of_ble_eq_true rfl) dlaw_209 (fun v ws H locs hp hP hD hS => ?_)
  obtain ⟨rfl, a1, s2, rm1, rfl⟩ := hp
  exact lv_icmp_eq (tgt := 804) hx hb dlaw_212 (by decide) (fun _ => kk _ _ _ ⟨X1, N1, a1, s2, rx1, rm1, ap_swP hP, ap_swD hD⟩ hS) (fun h => absurd rfl h)
set_option maxHeartbeats 1000000 in
set_option maxRecDepth 20000 in
theorem lc_3 (E : lzE p s m meth c b L xs D cI A U V i ls cells slots) (kk : lzG p l e s m below meth c Q b D cI A U V ls cells slots 804) : lzG p l e s m below meth c Q b D cI A U V ls cells slots 217 := by
  intro S H locs hI hS
  obtain ⟨X, N, a, s1, rx, rm, hP, hD⟩ := hI
  obtain ⟨hx, hb, -, -, -, -, -, -, -, -⟩ := id E.1
  have hl := E.2.2.2.2.2.2.2.1
  refine lv_aload_n hx hb dlaw_217 rfl (lv_at hl 1 rfl) ?_
  refine lz_ld E hS 1 (by decide) rfl dlaw_218 dlaw_219 dlaw_220 dlaw_221 dlaw_222 ?_
  refine lz_call E hP hD hS (c0 := nX5_wanted) (as := [.int (xs (i + 1))]) (rest := []) rfl (by decide) rfl (xT_in 343 (by rfl) rfl) rfl rfl rfl pX5_wanted (x_wanted 0 rx (xs (i + 1))) rfl (Nat.le_of_ble_eq_true rfl) (Nat.le_of_ble_eq_true rfl) dlaw_223 (fun v ws H locs hp hP hD hS => ?_)
  obtain ⟨rfl, X1, N1, rx1, rfl⟩ := hp
  have hP := ap_swP hP
  have hD := ap_swD hD
  refine lv_aload_n hx hb dlaw_226 rfl (lv_at hl 2 rfl) ?_
  refine lz_ld E hS 1 (by decide) rfl dlaw_227 dlaw_228 dlaw_229 dlaw_230 dlaw_231 ?_
  refine lz_call E hP hD hS (c0 := nX6_wanted) (as := [.int (xs (i + 1))]) (rest := [.int _]) rfl (by decide) rfl (xT_in 798 (by rfl) rfl) rfl rfl rfl pX6_wanted (m_wanted 0 rm (xs (i + 1))) rfl (Nat.le_of_ble_eq_true rfl) (Nat.le_of_ble_eq_true rfl) dlaw_232 (fun v ws H locs hp hP hD hS => ?_)
  obtain ⟨rfl, a1, s2, rm1, rfl⟩ := hp
  exact lv_icmp_eq (tgt := 804) hx hb dlaw_235 (by decide) (fun _ => kk _ _ _ ⟨X1, N1, a1, s2, rx1, rm1, ap_swP hP, ap_swD hD⟩ hS) (fun h => absurd rfl h)
set_option maxHeartbeats 1000000 in
set_option maxRecDepth 20000 in
theorem lc_4 (E : lzE p s m meth c b L xs D cI A U V i ls cells slots) (kk : lzG p l e s m below meth c Q b D cI A U V ls cells slots 804) : lzG p l e s m below meth c Q b D cI A U V ls cells slots 240 := by
  intro S H locs hI hS
  obtain ⟨X, N, a, s1, rx, rm, hP, hD⟩ := hI
  obtain ⟨hx, hb, -, -, -, -, -, -, -, -⟩ := id E.1
  have hl := E.2.2.2.2.2.2.2.1
  refine lv_aload_n hx hb dlaw_240 rfl (lv_at hl 1 rfl) ?_
  refine lz_ld E hS 1 (by decide) rfl dlaw_241 dlaw_242 dlaw_243 dlaw_244 dlaw_245 ?_
  refine lz_call E hP hD hS (c0 := nX5_heat) (as := [.int (xs (i + 1))]) (rest := []) rfl (by decide) rfl (xT_in 356 (by rfl) rfl) rfl rfl rfl pX5_heat (x_heat 0 rx (xs (i + 1))) rfl (Nat.le_of_ble_eq_true rfl) (Nat.le_of_ble_eq_true rfl) dlaw_246 (fun v ws H locs hp hP hD hS => ?_)
  obtain ⟨rfl, X1, N1, rx1, rfl⟩ := hp
  have hP := ap_swP hP
  have hD := ap_swD hD
  refine lv_aload_n hx hb dlaw_249 rfl (lv_at hl 2 rfl) ?_
  refine lz_ld E hS 1 (by decide) rfl dlaw_250 dlaw_251 dlaw_252 dlaw_253 dlaw_254 ?_
  refine lz_call E hP hD hS (Post := pMs (spHeat S (xs (i + 1)))) (c0 := nX6_heat) (as := [.int (xs (i + 1))]) (rest := [.int _]) rfl (by decide) rfl (xT_in 802 (by rfl) rfl) rfl rfl rfl pX6_heat (m_heat 0 rm (xs (i + 1))) rfl (Nat.le_of_ble_eq_true rfl) (Nat.le_of_ble_eq_true rfl) dlaw_255 (fun v ws H locs hp hP hD hS => ?_)
  obtain ⟨rfl, a1, s2, rm1, rfl⟩ := hp
  exact lv_icmp_eq (tgt := 804) hx hb dlaw_258 (by decide) (fun _ => kk _ _ _ ⟨X1, N1, a1, s2, rx1, rm1, ap_swP hP, ap_swD hD⟩ hS) (fun h => absurd rfl h)
set_option maxHeartbeats 1000000 in
set_option maxRecDepth 20000 in
theorem lc_5 (E : lzE p s m meth c b L xs D cI A U V i ls cells slots) (kk : lzG p l e s m below meth c Q b D cI A U V ls cells slots 804) : lzG p l e s m below meth c Q b D cI A U V ls cells slots 263 := by
  intro S H locs hI hS
  obtain ⟨X, N, a, s1, rx, rm, hP, hD⟩ := hI
  obtain ⟨hx, hb, -, -, -, -, -, -, -, -⟩ := id E.1
  have hl := E.2.2.2.2.2.2.2.1
  refine lv_aload_n hx hb dlaw_263 rfl (lv_at hl 1 rfl) ?_
  refine lz_ld E hS 1 (by decide) rfl dlaw_264 dlaw_265 dlaw_266 dlaw_267 dlaw_268 ?_
  refine lz_ld E hS 2 (by decide) rfl dlaw_269 dlaw_270 dlaw_271 dlaw_272 dlaw_273 ?_
  refine lz_call E hP hD hS (c0 := nX5_price) (as := [.int (xs (i + 1)), .int (xs (i + 2))]) (rest := []) rfl (by decide) rfl (xT_in 360 (by rfl) rfl) rfl rfl rfl pX5_price (x_price 0 rx (xs (i + 1)) (xs (i + 2))) rfl (Nat.le_of_ble_eq_true rfl) (Nat.le_of_ble_eq_true rfl) dlaw_274 (fun v ws H locs hp hP hD hS => ?_)
  obtain ⟨rfl, X1, N1, rx1, rfl⟩ := hp
  have hP := ap_swP hP
  have hD := ap_swD hD
  refine lv_aload_n hx hb dlaw_277 rfl (lv_at hl 2 rfl) ?_
  refine lz_ld E hS 1 (by decide) rfl dlaw_278 dlaw_279 dlaw_280 dlaw_281 dlaw_282 ?_
  refine lz_ld E hS 2 (by decide) rfl dlaw_283 dlaw_284 dlaw_285 dlaw_286 dlaw_287 ?_
  refine lz_call E hP hD hS (Post := pMs (spPrice S (xs (i + 1)) (xs (i + 2)))) (c0 := nX6_price) (as := [.int (xs (i + 1)), .int (xs (i + 2))]) (rest := [.int _]) rfl (by decide) rfl (xT_in 806 (by rfl) rfl) rfl rfl rfl pX6_price (m_price 0 rm (xs (i + 1)) (xs (i + 2))) rfl (Nat.le_of_ble_eq_true rfl) (Nat.le_of_ble_eq_true rfl) dlaw_288 (fun v ws H locs hp hP hD hS => ?_)
  obtain ⟨rfl, a1, s2, rm1, rfl⟩ := hp
  exact lv_icmp_eq (tgt := 804) hx hb dlaw_291 (by decide) (fun _ => kk _ _ _ ⟨X1, N1, a1, s2, rx1, rm1, ap_swP hP, ap_swD hD⟩ hS) (fun h => absurd rfl h)
set_option maxHeartbeats 1000000 in
set_option maxRecDepth 20000 in
theorem lc_6 (E : lzE p s m meth c b L xs D cI A U V i ls cells slots) (kk : lzG p l e s m below meth c Q b D cI A U V ls cells slots 804) : lzG p l e s m below meth c Q b D cI A U V ls cells slots 296 := by
  intro S H locs hI hS
  obtain ⟨X, N, a, s1, rx, rm, hP, hD⟩ := hI
  obtain ⟨hx, hb, -, -, -, -, -, -, -, -⟩ := id E.1
  have hl := E.2.2.2.2.2.2.2.1
  refine lv_aload_n hx hb dlaw_296 rfl (lv_at hl 1 rfl) ?_
  refine lz_ld E hS 1 (by decide) rfl dlaw_297 dlaw_298 dlaw_299 dlaw_300 dlaw_301 ?_
  refine lz_ld E hS 2 (by decide) rfl dlaw_302 dlaw_303 dlaw_304 dlaw_305 dlaw_306 ?_
  refine lz_call E hP hD hS (c0 := nX5_lay) (as := [.int (xs (i + 1)), .int (xs (i + 2))]) (rest := []) rfl (by decide) rfl (xT_in 368 (by rfl) rfl) rfl rfl rfl pX5_lay (x_lay 0 rx (xs (i + 1)) (xs (i + 2))) rfl (Nat.le_of_ble_eq_true rfl) (Nat.le_of_ble_eq_true rfl) dlaw_307 (fun v ws H locs hp hP hD hS => ?_)
  obtain ⟨rfl, X1, N1, rx1, rfl⟩ := hp
  have hP := ap_swP hP
  have hD := ap_swD hD
  refine lv_aload_n hx hb dlaw_310 rfl (lv_at hl 2 rfl) ?_
  refine lz_ld E hS 1 (by decide) rfl dlaw_311 dlaw_312 dlaw_313 dlaw_314 dlaw_315 ?_
  refine lz_ld E hS 2 (by decide) rfl dlaw_316 dlaw_317 dlaw_318 dlaw_319 dlaw_320 ?_
  refine lz_call E hP hD hS (c0 := nX6_lay) (as := [.int (xs (i + 1)), .int (xs (i + 2))]) (rest := [.int _]) rfl (by decide) rfl (xT_in 810 (by rfl) rfl) rfl rfl rfl pX6_lay (m_lay 0 rm (xs (i + 1)) (xs (i + 2))) rfl (Nat.le_of_ble_eq_true rfl) (Nat.le_of_ble_eq_true rfl) dlaw_321 (fun v ws H locs hp hP hD hS => ?_)
  obtain ⟨rfl, a1, s2, rm1, rfl⟩ := hp
  exact lv_icmp_eq (tgt := 804) hx hb dlaw_324 (by decide) (fun _ => kk _ _ _ ⟨X1, N1, a1, s2, rx1, rm1, ap_swP hP, ap_swD hD⟩ hS) (fun h => absurd rfl h)
set_option maxHeartbeats 1000000 in
set_option maxRecDepth 20000 in
theorem lc_7 (E : lzE p s m meth c b L xs D cI A U V i ls cells slots) (kk : lzG p l e s m below meth c Q b D cI A U V ls cells slots 804) : lzG p l e s m below meth c Q b D cI A U V ls cells slots 329 := by
  intro S H locs hI hS
  obtain ⟨X, N, a, s1, rx, rm, hP, hD⟩ := hI
  obtain ⟨hx, hb, -, -, -, -, -, -, -, -⟩ := id E.1
  have hl := E.2.2.2.2.2.2.2.1
  refine lv_aload_n hx hb dlaw_329 rfl (lv_at hl 1 rfl) ?_
  refine lz_ld E hS 1 (by decide) rfl dlaw_330 dlaw_331 dlaw_332 dlaw_333 dlaw_334 ?_
  refine lz_call E hP hD hS (c0 := nX5_project) (as := [.int (xs (i + 1))]) (rest := []) rfl (by decide) rfl (xT_in 384 (by rfl) rfl) rfl rfl rfl pX5_project (x_project 0 rx (xs (i + 1))) rfl (Nat.le_of_ble_eq_true rfl) (Nat.le_of_ble_eq_true rfl) dlaw_335 (fun v ws H locs hp hP hD hS => ?_)
  obtain ⟨rfl, X1, N1, rx1, rfl⟩ := hp
  have hP := ap_swP hP
  have hD := ap_swD hD
  refine lv_aload_n hx hb dlaw_338 rfl (lv_at hl 2 rfl) ?_
  refine lz_ld E hS 1 (by decide) rfl dlaw_339 dlaw_340 dlaw_341 dlaw_342 dlaw_343 ?_
  refine lz_call E hP hD hS (c0 := nX6_project) (as := [.int (xs (i + 1))]) (rest := [.int _]) rfl (by decide) rfl (xT_in 822 (by rfl) rfl) rfl rfl rfl pX6_project (m_project 0 rm (xs (i + 1))) rfl (Nat.le_of_ble_eq_true rfl) (Nat.le_of_ble_eq_true rfl) dlaw_344 (fun v ws H locs hp hP hD hS => ?_)
  obtain ⟨rfl, a1, s2, rm1, rfl⟩ := hp
  exact lv_icmp_eq (tgt := 804) hx hb dlaw_347 (by decide) (fun _ => kk _ _ _ ⟨X1, N1, a1, s2, rx1, rm1, ap_swP hP, ap_swD hD⟩ hS) (fun h => absurd rfl h)
set_option maxHeartbeats 1000000 in
set_option maxRecDepth 20000 in
theorem lc_8 (E : lzE p s m meth c b L xs D cI A U V i ls cells slots) (kk : lzG p l e s m below meth c Q b D cI A U V ls cells slots 804) : lzG p l e s m below meth c Q b D cI A U V ls cells slots 352 := by
  intro S H locs hI hS
  obtain ⟨X, N, a, s1, rx, rm, hP, hD⟩ := hI
  obtain ⟨hx, hb, -, -, -, -, -, -, -, -⟩ := id E.1
  have hl := E.2.2.2.2.2.2.2.1
  refine lv_aload_n hx hb dlaw_352 rfl (lv_at hl 1 rfl) ?_
  refine lz_ld E hS 1 (by decide) rfl dlaw_353 dlaw_354 dlaw_355 dlaw_356 dlaw_357 ?_
  refine lz_ld E hS 2 (by decide) rfl dlaw_358 dlaw_359 dlaw_360 dlaw_361 dlaw_362 ?_
  refine lz_call E hP hD hS (c0 := nX5_gaps) (as := [.int (xs (i + 1)), .int (xs (i + 2))]) (rest := []) rfl (by decide) rfl (xT_in 411 (by rfl) rfl) rfl rfl rfl pX5_gaps (x_gaps 0 rx (xs (i + 1)) (xs (i + 2))) rfl (Nat.le_of_ble_eq_true rfl) (Nat.le_of_ble_eq_true rfl) dlaw_363 (fun v ws H locs hp hP hD hS => ?_)
  obtain ⟨rfl, X1, N1, rx1, rfl⟩ := hp
  have hP := ap_swP hP
  have hD := ap_swD hD
  refine lv_aload_n hx hb dlaw_366 rfl (lv_at hl 2 rfl) ?_
  refine lz_ld E hS 1 (by decide) rfl dlaw_367 dlaw_368 dlaw_369 dlaw_370 dlaw_371 ?_
  refine lz_ld E hS 2 (by decide) rfl dlaw_372 dlaw_373 dlaw_374 dlaw_375 dlaw_376 ?_
  refine lz_call E hP hD hS (c0 := nX6_gaps) (as := [.int (xs (i + 1)), .int (xs (i + 2))]) (rest := [.int _]) rfl (by decide) rfl (xT_in 837 (by rfl) rfl) rfl rfl rfl pX6_gaps (m_gaps 0 rm (xs (i + 1)) (xs (i + 2))) rfl (Nat.le_of_ble_eq_true rfl) (Nat.le_of_ble_eq_true rfl) dlaw_377 (fun v ws H locs hp hP hD hS => ?_)
  obtain ⟨rfl, a1, s2, rm1, rfl⟩ := hp
  exact lv_icmp_eq (tgt := 804) hx hb dlaw_380 (by decide) (fun _ => kk _ _ _ ⟨X1, N1, a1, s2, rx1, rm1, ap_swP hP, ap_swD hD⟩ hS) (fun h => absurd rfl h)
set_option maxHeartbeats 1000000 in
set_option maxRecDepth 20000 in
theorem lc_9 (E : lzE p s m meth c b L xs D cI A U V i ls cells slots) (kk : lzG p l e s m below meth c Q b D cI A U V ls cells slots 804) : lzG p l e s m below meth c Q b D cI A U V ls cells slots 385 := by
  intro S H locs hI hS
  obtain ⟨X, N, a, s1, rx, rm, hP, hD⟩ := hI
  obtain ⟨hx, hb, -, -, -, -, -, -, -, -⟩ := id E.1
  have hl := E.2.2.2.2.2.2.2.1
  refine lv_aload_n hx hb dlaw_385 rfl (lv_at hl 1 rfl) ?_
  refine lz_ld E hS 1 (by decide) rfl dlaw_386 dlaw_387 dlaw_388 dlaw_389 dlaw_390 ?_
  refine lz_ld E hS 2 (by decide) rfl dlaw_391 dlaw_392 dlaw_393 dlaw_394 dlaw_395 ?_
  refine lz_call E hP hD hS (c0 := nX5_nearest) (as := [.int (xs (i + 1)), .int (xs (i + 2))]) (rest := []) rfl (by decide) rfl (xT_in 426 (by rfl) rfl) rfl rfl rfl pX5_nearest (x_nearest 0 rx (xs (i + 1)) (xs (i + 2))) rfl (Nat.le_of_ble_eq_true rfl) (Nat.le_of_ble_eq_true rfl) dlaw_396 (fun v ws H locs hp hP hD hS => ?_)
  obtain ⟨rfl, X1, N1, rx1, rfl⟩ := hp
  have hP := ap_swP hP
  have hD := ap_swD hD
  refine lv_aload_n hx hb dlaw_399 rfl (lv_at hl 2 rfl) ?_
  refine lz_ld E hS 1 (by decide) rfl dlaw_400 dlaw_401 dlaw_402 dlaw_403 dlaw_404 ?_
  refine lz_ld E hS 2 (by decide) rfl dlaw_405 dlaw_406 dlaw_407 dlaw_408 dlaw_409 ?_
  refine lz_call E hP hD hS (c0 := nX6_nearest) (as := [.int (xs (i + 1)), .int (xs (i + 2))]) (rest := [.int _]) rfl (by decide) rfl (xT_in 845 (by rfl) rfl) rfl rfl rfl pX6_nearest (m_nearest 0 rm (xs (i + 1)) (xs (i + 2))) rfl (Nat.le_of_ble_eq_true rfl) (Nat.le_of_ble_eq_true rfl) dlaw_410 (fun v ws H locs hp hP hD hS => ?_)
  obtain ⟨rfl, a1, s2, rm1, rfl⟩ := hp
  exact lv_icmp_eq (tgt := 804) hx hb dlaw_413 (by decide) (fun _ => kk _ _ _ ⟨X1, N1, a1, s2, rx1, rm1, ap_swP hP, ap_swD hD⟩ hS) (fun h => absurd rfl h)
set_option maxHeartbeats 1000000 in
set_option maxRecDepth 20000 in
theorem lc_10 (E : lzE p s m meth c b L xs D cI A U V i ls cells slots) (kk : lzG p l e s m below meth c Q b D cI A U V ls cells slots 804) : lzG p l e s m below meth c Q b D cI A U V ls cells slots 418 := by
  intro S H locs hI hS
  obtain ⟨X, N, a, s1, rx, rm, hP, hD⟩ := hI
  obtain ⟨hx, hb, -, -, -, -, -, -, -, -⟩ := id E.1
  have hl := E.2.2.2.2.2.2.2.1
  refine lv_aload_n hx hb dlaw_418 rfl (lv_at hl 1 rfl) ?_
  refine lz_ld E hS 1 (by decide) rfl dlaw_419 dlaw_420 dlaw_421 dlaw_422 dlaw_423 ?_
  refine lz_ld E hS 2 (by decide) rfl dlaw_424 dlaw_425 dlaw_426 dlaw_427 dlaw_428 ?_
  refine lz_call E hP hD hS (c0 := nX5_fewest) (as := [.int (xs (i + 1)), .int (xs (i + 2))]) (rest := []) rfl (by decide) rfl (xT_in 434 (by rfl) rfl) rfl rfl rfl pX5_fewest (x_fewest 0 rx (few_eq rx.1.1) (xs (i + 1)) (xs (i + 2))) rfl (Nat.le_of_ble_eq_true rfl) (Nat.le_of_ble_eq_true rfl) dlaw_429 (fun v ws H locs hp hP hD hS => ?_)
  obtain ⟨rfl, X1, N1, rx1, rfl⟩ := hp
  have hP := ap_swP hP
  have hD := ap_swD hD
  refine lv_aload_n hx hb dlaw_432 rfl (lv_at hl 2 rfl) ?_
  refine lz_ld E hS 1 (by decide) rfl dlaw_433 dlaw_434 dlaw_435 dlaw_436 dlaw_437 ?_
  refine lz_ld E hS 2 (by decide) rfl dlaw_438 dlaw_439 dlaw_440 dlaw_441 dlaw_442 ?_
  refine lz_call E hP hD hS (c0 := nX6_fewest) (as := [.int (xs (i + 1)), .int (xs (i + 2))]) (rest := [.int _]) rfl (by decide) rfl (xT_in 849 (by rfl) rfl) rfl rfl rfl pX6_fewest (m_fewest 0 rm (xs (i + 1)) (xs (i + 2))) rfl (Nat.le_of_ble_eq_true rfl) (Nat.le_of_ble_eq_true rfl) dlaw_443 (fun v ws H locs hp hP hD hS => ?_)
  obtain ⟨rfl, a1, s2, rm1, rfl⟩ := hp
  exact lv_icmp_eq (tgt := 804) hx hb dlaw_446 (by decide) (fun _ => kk _ _ _ ⟨X1, N1, a1, s2, rx1, rm1, ap_swP hP, ap_swD hD⟩ hS) (fun h => absurd rfl h)
set_option maxHeartbeats 1000000 in
set_option maxRecDepth 20000 in
theorem lc_11 (E : lzE p s m meth c b L xs D cI A U V i ls cells slots) (kk : lzG p l e s m below meth c Q b D cI A U V ls cells slots 804) : lzG p l e s m below meth c Q b D cI A U V ls cells slots 451 := by
  intro S H locs hI hS
  obtain ⟨X, N, a, s1, rx, rm, hP, hD⟩ := hI
  obtain ⟨hx, hb, -, -, -, -, -, -, -, -⟩ := id E.1
  have hl := E.2.2.2.2.2.2.2.1
  refine lv_aload_n hx hb dlaw_451 rfl (lv_at hl 1 rfl) ?_
  refine lz_ld E hS 1 (by decide) rfl dlaw_452 dlaw_453 dlaw_454 dlaw_455 dlaw_456 ?_
  refine lz_call E hP hD hS (c0 := nX5_cheapest) (as := [.int (xs (i + 1))]) (rest := []) rfl (by decide) rfl (xT_in 468 (by rfl) rfl) rfl rfl rfl pX5_cheapest (x_cheapest 0 rx (che_eq rx.1.1) (xs (i + 1))) rfl (Nat.le_of_ble_eq_true rfl) (Nat.le_of_ble_eq_true rfl) dlaw_457 (fun v ws H locs hp hP hD hS => ?_)
  obtain ⟨rfl, X1, N1, rx1, rfl⟩ := hp
  have hP := ap_swP hP
  have hD := ap_swD hD
  refine lv_aload_n hx hb dlaw_460 rfl (lv_at hl 2 rfl) ?_
  refine lz_ld E hS 1 (by decide) rfl dlaw_461 dlaw_462 dlaw_463 dlaw_464 dlaw_465 ?_
  refine lz_call E hP hD hS (c0 := nX6_cheapest) (as := [.int (xs (i + 1))]) (rest := [.int _]) rfl (by decide) rfl (xT_in 865 (by rfl) rfl) rfl rfl rfl pX6_cheapest (m_cheapest 0 rm (xs (i + 1))) rfl (Nat.le_of_ble_eq_true rfl) (Nat.le_of_ble_eq_true rfl) dlaw_466 (fun v ws H locs hp hP hD hS => ?_)
  obtain ⟨rfl, a1, s2, rm1, rfl⟩ := hp
  exact lv_icmp_eq (tgt := 804) hx hb dlaw_469 (by decide) (fun _ => kk _ _ _ ⟨X1, N1, a1, s2, rx1, rm1, ap_swP hP, ap_swD hD⟩ hS) (fun h => absurd rfl h)
set_option maxHeartbeats 1000000 in
set_option maxRecDepth 20000 in
theorem lc_12 (E : lzE p s m meth c b L xs D cI A U V i ls cells slots) (kk : lzG p l e s m below meth c Q b D cI A U V ls cells slots 804) : lzG p l e s m below meth c Q b D cI A U V ls cells slots 474 := by
  intro S H locs hI hS
  obtain ⟨X, N, a, s1, rx, rm, hP, hD⟩ := hI
  obtain ⟨hx, hb, -, -, -, -, -, -, -, -⟩ := id E.1
  have hl := E.2.2.2.2.2.2.2.1
  refine lv_aload_n hx hb dlaw_474 rfl (lv_at hl 1 rfl) ?_
  refine lz_ld E hS 1 (by decide) rfl dlaw_475 dlaw_476 dlaw_477 dlaw_478 dlaw_479 ?_
  refine lz_call E hP hD hS (c0 := nX5_near) (as := [.int (xs (i + 1))]) (rest := []) rfl (by decide) rfl (xT_in 480 (by rfl) rfl) rfl rfl rfl pX5_near (x_near 0 rx (near_eq rx.1.1) (xs (i + 1))) rfl (Nat.le_of_ble_eq_true rfl) (Nat.le_of_ble_eq_true rfl) dlaw_480 (fun v ws H locs hp hP hD hS => ?_)
  obtain ⟨rfl, X1, N1, rx1, rfl⟩ := hp
  have hP := ap_swP hP
  have hD := ap_swD hD
  refine lv_aload_n hx hb dlaw_483 rfl (lv_at hl 2 rfl) ?_
  refine lz_ld E hS 1 (by decide) rfl dlaw_484 dlaw_485 dlaw_486 dlaw_487 dlaw_488 ?_
  refine lz_call E hP hD hS (c0 := nX6_near) (as := [.int (xs (i + 1))]) (rest := [.int _]) rfl (by decide) rfl (xT_in 869 (by rfl) rfl) rfl rfl rfl pX6_near (m_near 0 rm (xs (i + 1))) rfl (Nat.le_of_ble_eq_true rfl) (Nat.le_of_ble_eq_true rfl) dlaw_489 (fun v ws H locs hp hP hD hS => ?_)
  obtain ⟨rfl, a1, s2, rm1, rfl⟩ := hp
  exact lv_icmp_eq (tgt := 804) hx hb dlaw_492 (by decide) (fun _ => kk _ _ _ ⟨X1, N1, a1, s2, rx1, rm1, ap_swP hP, ap_swD hD⟩ hS) (fun h => absurd rfl h)
set_option maxHeartbeats 1000000 in
set_option maxRecDepth 20000 in
theorem lc_13 (E : lzE p s m meth c b L xs D cI A U V i ls cells slots) (kk : lzG p l e s m below meth c Q b D cI A U V ls cells slots 804) : lzG p l e s m below meth c Q b D cI A U V ls cells slots 497 := by
  intro S H locs hI hS
  obtain ⟨X, N, a, s1, rx, rm, hP, hD⟩ := hI
  obtain ⟨hx, hb, -, -, -, -, -, -, -, -⟩ := id E.1
  have hl := E.2.2.2.2.2.2.2.1
  refine lv_aload_n hx hb dlaw_497 rfl (lv_at hl 1 rfl) ?_
  refine lz_ld E hS 1 (by decide) rfl dlaw_498 dlaw_499 dlaw_500 dlaw_501 dlaw_502 ?_
  refine lz_call E hP hD hS (c0 := nX5_can) (as := [.int (xs (i + 1))]) (rest := []) rfl (by decide) rfl (xT_in 493 (by rfl) rfl) rfl rfl rfl pX5_can (x_can 0 rx (can_eq _) (xs (i + 1))) rfl (Nat.le_of_ble_eq_true rfl) (Nat.le_of_ble_eq_true rfl) dlaw_503 (fun v ws H locs hp hP hD hS => ?_)
  obtain ⟨rfl, X1, N1, rx1, rfl⟩ := hp
  have hP := ap_swP hP
  have hD := ap_swD hD
  refine lv_aload_n hx hb dlaw_506 rfl (lv_at hl 2 rfl) ?_
  refine lz_ld E hS 1 (by decide) rfl dlaw_507 dlaw_508 dlaw_509 dlaw_510 dlaw_511 ?_
  refine lz_call E hP hD hS (c0 := nX6_can) (as := [.int (xs (i + 1))]) (rest := [.int _]) rfl (by decide) rfl (xT_in 873 (by rfl) rfl) rfl rfl rfl pX6_can (m_can 0 rm (xs (i + 1))) rfl (Nat.le_of_ble_eq_true rfl) (Nat.le_of_ble_eq_true rfl) dlaw_512 (fun v ws H locs hp hP hD hS => ?_)
  obtain ⟨rfl, a1, s2, rm1, rfl⟩ := hp
  exact lv_icmp_eq (tgt := 804) hx hb dlaw_515 (by decide) (fun _ => kk _ _ _ ⟨X1, N1, a1, s2, rx1, rm1, ap_swP hP, ap_swD hD⟩ hS) (fun h => absurd rfl h)
set_option maxHeartbeats 1000000 in
set_option maxRecDepth 20000 in
theorem lc_14 (E : lzE p s m meth c b L xs D cI A U V i ls cells slots) (kk : lzG p l e s m below meth c Q b D cI A U V ls cells slots 804) : lzG p l e s m below meth c Q b D cI A U V ls cells slots 520 := by
  intro S H locs hI hS
  obtain ⟨X, N, a, s1, rx, rm, hP, hD⟩ := hI
  obtain ⟨hx, hb, -, -, -, -, -, -, -, -⟩ := id E.1
  have hl := E.2.2.2.2.2.2.2.1
  refine lv_aload_n hx hb dlaw_520 rfl (lv_at hl 1 rfl) ?_
  refine lz_ld E hS 1 (by decide) rfl dlaw_521 dlaw_522 dlaw_523 dlaw_524 dlaw_525 ?_
  refine lz_call E hP hD hS (c0 := nX5_worth) (as := [.int (xs (i + 1))]) (rest := []) rfl (by decide) rfl (xT_in 506 (by rfl) rfl) rfl rfl rfl pX5_worth (x_worth 0 rx (can_eq _) (xs (i + 1))) rfl (Nat.le_of_ble_eq_true rfl) (Nat.le_of_ble_eq_true rfl) dlaw_526 (fun v ws H locs hp hP hD hS => ?_)
  obtain ⟨rfl, X1, N1, rx1, rfl⟩ := hp
  have hP := ap_swP hP
  have hD := ap_swD hD
  refine lv_aload_n hx hb dlaw_529 rfl (lv_at hl 2 rfl) ?_
  refine lz_ld E hS 1 (by decide) rfl dlaw_530 dlaw_531 dlaw_532 dlaw_533 dlaw_534 ?_
  refine lz_call E hP hD hS (c0 := nX6_worth) (as := [.int (xs (i + 1))]) (rest := [.int _]) rfl (by decide) rfl (xT_in 881 (by rfl) rfl) rfl rfl rfl pX6_worth (m_worth 0 rm (xs (i + 1))) rfl (Nat.le_of_ble_eq_true rfl) (Nat.le_of_ble_eq_true rfl) dlaw_535 (fun v ws H locs hp hP hD hS => ?_)
  obtain ⟨rfl, a1, s2, rm1, rfl⟩ := hp
  exact lv_icmp_eq (tgt := 804) hx hb dlaw_538 (by decide) (fun _ => kk _ _ _ ⟨X1, N1, a1, s2, rx1, rm1, ap_swP hP, ap_swD hD⟩ hS) (fun h => absurd rfl h)
set_option maxHeartbeats 1000000 in
set_option maxRecDepth 20000 in
theorem lc_15 (E : lzE p s m meth c b L xs D cI A U V i ls cells slots) (kk : lzG p l e s m below meth c Q b D cI A U V ls cells slots 804) : lzG p l e s m below meth c Q b D cI A U V ls cells slots 543 := by
  intro S H locs hI hS
  obtain ⟨X, N, a, s1, rx, rm, hP, hD⟩ := hI
  obtain ⟨hx, hb, -, -, -, -, -, -, -, -⟩ := id E.1
  have hl := E.2.2.2.2.2.2.2.1
  refine lv_aload_n hx hb dlaw_543 rfl (lv_at hl 1 rfl) ?_
  refine lz_ld E hS 1 (by decide) rfl dlaw_544 dlaw_545 dlaw_546 dlaw_547 dlaw_548 ?_
  refine lz_ld E hS 2 (by decide) rfl dlaw_549 dlaw_550 dlaw_551 dlaw_552 dlaw_553 ?_
  refine lz_ld E hS 3 (by decide) rfl dlaw_554 dlaw_555 dlaw_556 dlaw_557 dlaw_558 ?_
  refine lz_call E hP hD hS (c0 := nX5_sure) (as := [.int (xs (i + 1)), .int (xs (i + 2)), .int (xs (i + 3))]) (rest := []) rfl (by decide) rfl (xT_in 510 (by rfl) rfl) rfl rfl rfl pX5_sure (x_sure 0 rx (xs (i + 1)) (xs (i + 2)) (xs (i + 3))) rfl (Nat.le_of_ble_eq_true rfl) (Nat.le_of_ble_eq_true rfl) dlaw_559 (fun v ws H locs hp hP hD hS => ?_)
  obtain ⟨rfl, X1, N1, rx1, rfl⟩ := hp
  have hP := ap_swP hP
  have hD := ap_swD hD
  refine lv_aload_n hx hb dlaw_562 rfl (lv_at hl 2 rfl) ?_
  refine lz_ld E hS 1 (by decide) rfl dlaw_563 dlaw_564 dlaw_565 dlaw_566 dlaw_567 ?_
  refine lz_ld E hS 2 (by decide) rfl dlaw_568 dlaw_569 dlaw_570 dlaw_571 dlaw_572 ?_
  refine lz_ld E hS 3 (by decide) rfl dlaw_573 dlaw_574 dlaw_575 dlaw_576 dlaw_577 ?_
  refine lz_call E hP hD hS (c0 := nX6_sure) (as := [.int (xs (i + 1)), .int (xs (i + 2)), .int (xs (i + 3))]) (rest := [.int _]) rfl (by decide) rfl (xT_in 885 (by rfl) rfl) rfl rfl rfl pX6_sure (m_sure 0 rm (xs (i + 1)) (xs (i + 2)) (xs (i + 3))) rfl (Nat.le_of_ble_eq_true rfl) (Nat.le_of_ble_eq_true rfl) dlaw_578 (fun v ws H locs hp hP hD hS => ?_)
  obtain ⟨rfl, a1, s2, rm1, rfl⟩ := hp
  exact lv_icmp_eq (tgt := 804) hx hb dlaw_581 (by decide) (fun _ => kk _ _ _ ⟨X1, N1, a1, s2, rx1, rm1, ap_swP hP, ap_swD hD⟩ hS) (fun h => absurd rfl h)
set_option maxHeartbeats 1000000 in
set_option maxRecDepth 20000 in
theorem lc_16 (E : lzE p s m meth c b L xs D cI A U V i ls cells slots) (kk : lzG p l e s m below meth c Q b D cI A U V ls cells slots 804) : lzG p l e s m below meth c Q b D cI A U V ls cells slots 586 := by
  intro S H locs hI hS
  obtain ⟨X, N, a, s1, rx, rm, hP, hD⟩ := hI
  obtain ⟨hx, hb, -, -, -, -, -, -, -, -⟩ := id E.1
  have hl := E.2.2.2.2.2.2.2.1
  refine lv_aload_n hx hb dlaw_586 rfl (lv_at hl 1 rfl) ?_
  refine lz_ld E hS 1 (by decide) rfl dlaw_587 dlaw_588 dlaw_589 dlaw_590 dlaw_591 ?_
  refine lz_ld E hS 2 (by decide) rfl dlaw_592 dlaw_593 dlaw_594 dlaw_595 dlaw_596 ?_
  refine lz_ld E hS 3 (by decide) rfl dlaw_597 dlaw_598 dlaw_599 dlaw_600 dlaw_601 ?_
  refine lz_call E hP hD hS (c0 := nX5_who) (as := [.int (xs (i + 1)), .int (xs (i + 2)), .int (xs (i + 3))]) (rest := []) rfl (by decide) rfl (xT_in 514 (by rfl) rfl) rfl rfl rfl pX5_who (x_who 0 rx (xs (i + 1)) (xs (i + 2)) (xs (i + 3))) rfl (Nat.le_of_ble_eq_true rfl) (Nat.le_of_ble_eq_true rfl) dlaw_602 (fun v ws H locs hp hP hD hS => ?_)
  obtain ⟨rfl, X1, N1, rx1, rfl⟩ := hp
  have hP := ap_swP hP
  have hD := ap_swD hD
  refine lv_aload_n hx hb dlaw_605 rfl (lv_at hl 2 rfl) ?_
  refine lz_ld E hS 1 (by decide) rfl dlaw_606 dlaw_607 dlaw_608 dlaw_609 dlaw_610 ?_
  refine lz_ld E hS 2 (by decide) rfl dlaw_611 dlaw_612 dlaw_613 dlaw_614 dlaw_615 ?_
  refine lz_ld E hS 3 (by decide) rfl dlaw_616 dlaw_617 dlaw_618 dlaw_619 dlaw_620 ?_
  refine lz_call E hP hD hS (c0 := nX6_who) (as := [.int (xs (i + 1)), .int (xs (i + 2)), .int (xs (i + 3))]) (rest := [.int _]) rfl (by decide) rfl (xT_in 893 (by rfl) rfl) rfl rfl rfl pX6_who (m_who 0 rm (xs (i + 1)) (xs (i + 2)) (xs (i + 3))) rfl (Nat.le_of_ble_eq_true rfl) (Nat.le_of_ble_eq_true rfl) dlaw_621 (fun v ws H locs hp hP hD hS => ?_)
  obtain ⟨rfl, a1, s2, rm1, rfl⟩ := hp
  exact lv_icmp_eq (tgt := 804) hx hb dlaw_624 (by decide) (fun _ => kk _ _ _ ⟨X1, N1, a1, s2, rx1, rm1, ap_swP hP, ap_swD hD⟩ hS) (fun h => absurd rfl h)
set_option maxHeartbeats 1000000 in
set_option maxRecDepth 20000 in
theorem lc_17 (E : lzE p s m meth c b L xs D cI A U V i ls cells slots) (kk : lzG p l e s m below meth c Q b D cI A U V ls cells slots 804) : lzG p l e s m below meth c Q b D cI A U V ls cells slots 629 := by
  intro S H locs hI hS
  obtain ⟨X, N, a, s1, rx, rm, hP, hD⟩ := hI
  obtain ⟨hx, hb, -, -, -, -, -, -, -, -⟩ := id E.1
  have hl := E.2.2.2.2.2.2.2.1
  refine lv_aload_n hx hb dlaw_629 rfl (lv_at hl 1 rfl) ?_
  refine lz_ld E hS 1 (by decide) rfl dlaw_630 dlaw_631 dlaw_632 dlaw_633 dlaw_634 ?_
  refine lz_ld E hS 2 (by decide) rfl dlaw_635 dlaw_636 dlaw_637 dlaw_638 dlaw_639 ?_
  refine lz_ld E hS 3 (by decide) rfl dlaw_640 dlaw_641 dlaw_642 dlaw_643 dlaw_644 ?_
  refine lz_call E hP hD hS (c0 := nX5_dust) (as := [.int (xs (i + 1)), .int (xs (i + 2)), .int (xs (i + 3))]) (rest := []) rfl (by decide) rfl (xT_in 522 (by rfl) rfl) rfl rfl rfl pX5_dust (x_dust 0 rx (xs (i + 1)) (xs (i + 2)) (xs (i + 3))) rfl (Nat.le_of_ble_eq_true rfl) (Nat.le_of_ble_eq_true rfl) dlaw_645 (fun v ws H locs hp hP hD hS => ?_)
  obtain ⟨rfl, X1, N1, rx1, rfl⟩ := hp
  have hP := ap_swP hP
  have hD := ap_swD hD
  refine lv_aload_n hx hb dlaw_648 rfl (lv_at hl 2 rfl) ?_
  refine lz_ld E hS 1 (by decide) rfl dlaw_649 dlaw_650 dlaw_651 dlaw_652 dlaw_653 ?_
  refine lz_ld E hS 2 (by decide) rfl dlaw_654 dlaw_655 dlaw_656 dlaw_657 dlaw_658 ?_
  refine lz_ld E hS 3 (by decide) rfl dlaw_659 dlaw_660 dlaw_661 dlaw_662 dlaw_663 ?_
  refine lz_call E hP hD hS (c0 := nX6_dust) (as := [.int (xs (i + 1)), .int (xs (i + 2)), .int (xs (i + 3))]) (rest := [.long _]) rfl (by decide) rfl (xT_in 897 (by rfl) rfl) rfl rfl rfl pX6_dust (m_dust 0 rm (xs (i + 1)) (xs (i + 2)) (xs (i + 3))) rfl (Nat.le_of_ble_eq_true rfl) (Nat.le_of_ble_eq_true rfl) dlaw_664 (fun v ws H locs hp hP hD hS => ?_)
  obtain ⟨rfl, a1, s2, rm1, rfl⟩ := hp
  refine W.lcmp hx hb dlaw_667 ?_
  exact lv_if_eq (tgt := 804) hx hb dlaw_668 (by decide) (fun _ => kk _ _ _ ⟨X1, N1, a1, s2, rx1, rm1, ap_swP hP, ap_swD hD⟩ hS) (fun h => absurd ((lg_cmp_eq _ _).mpr rfl) h)
set_option maxHeartbeats 1000000 in
set_option maxRecDepth 20000 in
theorem lc_18 (E : lzE p s m meth c b L xs D cI A U V i ls cells slots) (kk : lzG p l e s m below meth c Q b D cI A U V ls cells slots 804) : lzG p l e s m below meth c Q b D cI A U V ls cells slots 673 := by
  intro S H locs hI hS
  obtain ⟨X, N, a, s1, rx, rm, hP, hD⟩ := hI
  obtain ⟨hx, hb, -, -, -, -, -, -, -, -⟩ := id E.1
  have hl := E.2.2.2.2.2.2.2.1
  refine lv_aload_n hx hb dlaw_673 rfl (lv_at hl 1 rfl) ?_
  refine lz_call E hP hD hS (c0 := nX5_round) (as := []) (rest := []) rfl (by decide) rfl (xT_in 530 (by rfl) rfl) rfl rfl rfl pX5_round (x_round 0 rx) rfl (Nat.le_of_ble_eq_true rfl) (Nat.le_of_ble_eq_true rfl) dlaw_674 (fun v ws H locs hp hP hD hS => ?_)
  obtain ⟨rfl, X1, N1, rx1, rfl⟩ := hp
  have hP := ap_swP hP
  have hD := ap_swD hD
  refine lv_aload_n hx hb dlaw_677 rfl (lv_at hl 2 rfl) ?_
  refine lz_call E hP hD hS (c0 := nX6_round) (as := []) (rest := [.int _]) rfl (by decide) rfl (xT_in 910 (by rfl) rfl) rfl rfl rfl pX6_round (m_round' 0 rm) rfl (Nat.le_of_ble_eq_true rfl) (Nat.le_of_ble_eq_true rfl) dlaw_678 (fun v ws H locs hp hP hD hS => ?_)
  obtain ⟨rfl, a1, s2, rm1, rfl⟩ := hp
  exact lv_icmp_eq (tgt := 804) hx hb dlaw_681 (by decide) (fun _ => kk _ _ _ ⟨X1, N1, a1, s2, rx1, rm1, ap_swP hP, ap_swD hD⟩ hS) (fun h => absurd rfl h)
set_option maxHeartbeats 1000000 in
set_option maxRecDepth 20000 in
theorem lc_19 (E : lzE p s m meth c b L xs D cI A U V i ls cells slots) (kk : lzG p l e s m below meth c Q b D cI A U V ls cells slots 804) : lzG p l e s m below meth c Q b D cI A U V ls cells slots 686 := by
  intro S H locs hI hS
  obtain ⟨X, N, a, s1, rx, rm, hP, hD⟩ := hI
  obtain ⟨hx, hb, -, -, -, -, -, -, -, -⟩ := id E.1
  have hl := E.2.2.2.2.2.2.2.1
  refine lv_aload_n hx hb dlaw_686 rfl (lv_at hl 1 rfl) ?_
  refine lz_ld E hS 1 (by decide) rfl dlaw_687 dlaw_688 dlaw_689 dlaw_690 dlaw_691 ?_
  refine lz_call E hP hD hS (c0 := nX5_row) (as := [.int (xs (i + 1))]) (rest := []) rfl (by decide) rfl (xT_in 566 (by rfl) rfl) rfl rfl rfl pX5_row (x_row 0 rx (xs (i + 1))) rfl (Nat.le_of_ble_eq_true rfl) (Nat.le_of_ble_eq_true rfl) dlaw_692 (fun v ws H locs hp hP hD hS => ?_)
  obtain ⟨rfl, X1, N1, rx1, rfl⟩ := hp
  have hP := ap_swP hP
  have hD := ap_swD hD
  refine lv_aload_n hx hb dlaw_695 rfl (lv_at hl 2 rfl) ?_
  refine lz_ld E hS 1 (by decide) rfl dlaw_696 dlaw_697 dlaw_698 dlaw_699 dlaw_700 ?_
  refine lz_call E hP hD hS (Post := pMs (spRow S (xs (i + 1)))) (c0 := nX6_row) (as := [.int (xs (i + 1))]) (rest := [.int _]) rfl (by decide) rfl (xT_in 929 (by rfl) rfl) rfl rfl rfl pX6_row (m_row 0 rm (xs (i + 1))) rfl (Nat.le_of_ble_eq_true rfl) (Nat.le_of_ble_eq_true rfl) dlaw_701 (fun v ws H locs hp hP hD hS => ?_)
  obtain ⟨rfl, a1, s2, rm1, rfl⟩ := hp
  exact lv_icmp_eq (tgt := 804) hx hb dlaw_704 (by decide) (fun _ => kk _ _ _ ⟨X1, N1, a1, s2, rx1, rm1, ap_swP hP, ap_swD hD⟩ hS) (fun h => absurd rfl h)
set_option maxHeartbeats 1000000 in
set_option maxRecDepth 20000 in
theorem lc_20 (E : lzE p s m meth c b L xs D cI A U V i ls cells slots) (kk : lzG p l e s m below meth c Q b D cI A U V ls cells slots 804) : lzG p l e s m below meth c Q b D cI A U V ls cells slots 709 := by
  intro S H locs hI hS
  obtain ⟨X, N, a, s1, rx, rm, hP, hD⟩ := hI
  obtain ⟨hx, hb, -, -, -, -, -, -, -, -⟩ := id E.1
  have hl := E.2.2.2.2.2.2.2.1
  refine lv_aload_n hx hb dlaw_709 rfl (lv_at hl 1 rfl) ?_
  refine lz_call E hP hD hS (c0 := nX5_judge) (as := []) (rest := []) rfl (by decide) rfl (xT_in 570 (by rfl) rfl) rfl rfl rfl pX5_judge (x_judge 0 rx) rfl (Nat.le_of_ble_eq_true rfl) (Nat.le_of_ble_eq_true rfl) dlaw_710 (fun v ws H locs hp hP hD hS => ?_)
  obtain ⟨rfl, X1, N1, rx1, rfl⟩ := hp
  have hP := ap_swP hP
  have hD := ap_swD hD
  refine lv_aload_n hx hb dlaw_713 rfl (lv_at hl 2 rfl) ?_
  refine lz_call E hP hD hS (c0 := nX6_judge) (as := []) (rest := [.int _]) rfl (by decide) rfl (xT_in 933 (by rfl) rfl) rfl rfl rfl pX6_judge (m_judge 0 rm) rfl (Nat.le_of_ble_eq_true rfl) (Nat.le_of_ble_eq_true rfl) dlaw_714 (fun v ws H locs hp hP hD hS => ?_)
  obtain ⟨rfl, a1, s2, rm1, rfl⟩ := hp
  exact lv_icmp_eq (tgt := 804) hx hb dlaw_717 (by decide) (fun _ => kk _ _ _ ⟨X1, N1, a1, s2, rx1, rm1, ap_swP hP, ap_swD hD⟩ hS) (fun h => absurd rfl h)
set_option maxHeartbeats 1000000 in
set_option maxRecDepth 20000 in
theorem lc_21 (E : lzE p s m meth c b L xs D cI A U V i ls cells slots) (kk : lzG p l e s m below meth c Q b D cI A U V ls cells slots 804) : lzG p l e s m below meth c Q b D cI A U V ls cells slots 722 := by
  intro S H locs hI hS
  obtain ⟨X, N, a, s1, rx, rm, hP, hD⟩ := hI
  obtain ⟨hx, hb, -, -, -, -, -, -, -, -⟩ := id E.1
  have hl := E.2.2.2.2.2.2.2.1
  refine lv_aload_n hx hb dlaw_722 rfl (lv_at hl 1 rfl) ?_
  refine lz_ld E hS 1 (by decide) rfl dlaw_723 dlaw_724 dlaw_725 dlaw_726 dlaw_727 ?_
  refine lz_ld E hS 2 (by decide) rfl dlaw_728 dlaw_729 dlaw_730 dlaw_731 dlaw_732 ?_
  refine lz_call E hP hD hS (c0 := nX5_seeds) (as := [.int (xs (i + 1)), .int (xs (i + 2))]) (rest := []) rfl (by decide) rfl (xT_in 578 (by rfl) rfl) rfl rfl rfl pX5_seeds (x_seeds 0 rx (xs (i + 1)) (xs (i + 2))) rfl (Nat.le_of_ble_eq_true rfl) (Nat.le_of_ble_eq_true rfl) dlaw_733 (fun v ws H locs hp hP hD hS => ?_)
  obtain ⟨rfl, X1, N1, rx1, rfl⟩ := hp
  have hP := ap_swP hP
  have hD := ap_swD hD
  refine lv_aload_n hx hb dlaw_736 rfl (lv_at hl 2 rfl) ?_
  refine lz_ld E hS 1 (by decide) rfl dlaw_737 dlaw_738 dlaw_739 dlaw_740 dlaw_741 ?_
  refine lz_ld E hS 2 (by decide) rfl dlaw_742 dlaw_743 dlaw_744 dlaw_745 dlaw_746 ?_
  refine lz_call E hP hD hS (c0 := nX6_seeds) (as := [.int (xs (i + 1)), .int (xs (i + 2))]) (rest := [.int _]) rfl (by decide) rfl (xT_in 941 (by rfl) rfl) rfl rfl rfl pX6_seeds (m_seeds 0 rm (xs (i + 1)) (xs (i + 2))) rfl (Nat.le_of_ble_eq_true rfl) (Nat.le_of_ble_eq_true rfl) dlaw_747 (fun v ws H locs hp hP hD hS => ?_)
  obtain ⟨rfl, a1, s2, rm1, rfl⟩ := hp
  exact lv_icmp_eq (tgt := 804) hx hb dlaw_750 (by decide) (fun _ => kk _ _ _ ⟨X1, N1, a1, s2, rx1, rm1, ap_swP hP, ap_swD hD⟩ hS) (fun h => absurd rfl h)
set_option maxHeartbeats 1000000 in
set_option maxRecDepth 20000 in
theorem lc_22 (E : lzE p s m meth c b L xs D cI A U V i ls cells slots) (kk : lzG p l e s m below meth c Q b D cI A U V ls cells slots 804) : lzG p l e s m below meth c Q b D cI A U V ls cells slots 755 := by
  intro S H locs hI hS
  obtain ⟨X, N, a, s1, rx, rm, hP, hD⟩ := hI
  obtain ⟨hx, hb, -, -, -, -, -, -, -, -⟩ := id E.1
  have hl := E.2.2.2.2.2.2.2.1
  refine lv_aload_n hx hb dlaw_755 rfl (lv_at hl 1 rfl) ?_
  refine lz_call E hP hD hS (c0 := nX5_image) (as := []) (rest := []) rfl (by decide) rfl (xT_in 591 (by rfl) rfl) rfl rfl rfl pX5_image (x_image 0 rx) rfl (Nat.le_of_ble_eq_true rfl) (Nat.le_of_ble_eq_true rfl) dlaw_756 (fun v ws H locs hp hP hD hS => ?_)
  obtain ⟨rfl, X1, N1, rx1, rfl⟩ := hp
  have hP := ap_swP hP
  have hD := ap_swD hD
  refine lv_aload_n hx hb dlaw_759 rfl (lv_at hl 2 rfl) ?_
  refine lz_call E hP hD hS (c0 := nX6_image) (as := []) (rest := [.int _]) rfl (by decide) rfl (xT_in 768 (by rfl) rfl) rfl rfl rfl pX6_image (m_image 0 rm) rfl (Nat.le_of_ble_eq_true rfl) (Nat.le_of_ble_eq_true rfl) dlaw_760 (fun v ws H locs hp hP hD hS => ?_)
  obtain ⟨rfl, a1, s2, rm1, rfl⟩ := hp
  exact lv_icmp_eq (tgt := 804) hx hb dlaw_763 (by decide) (fun _ => kk _ _ _ ⟨X1, N1, a1, s2, rx1, rm1, ap_swP hP, ap_swD hD⟩ hS) (fun h => absurd rfl h)
set_option maxHeartbeats 1000000 in
set_option maxRecDepth 20000 in
theorem lc_23 (E : lzE p s m meth c b L xs D cI A U V i ls cells slots) (kk : lzG p l e s m below meth c Q b D cI A U V ls cells slots 804) : lzG p l e s m below meth c Q b D cI A U V ls cells slots 768 := by
  intro S H locs hI hS
  obtain ⟨X, N, a, s1, rx, rm, hP, hD⟩ := hI
  obtain ⟨hx, hb, -, -, -, -, -, -, -, -⟩ := id E.1
  have hl := E.2.2.2.2.2.2.2.1
  refine lv_aload_n hx hb dlaw_768 rfl (lv_at hl 1 rfl) ?_
  refine lz_call E hP hD hS (c0 := nX5_restore) (as := []) (rest := []) rfl (by decide) rfl (xT_in 595 (by rfl) rfl) rfl rfl rfl pX5_restore (x_restore 0 rx) rfl (Nat.le_of_ble_eq_true rfl) (Nat.le_of_ble_eq_true rfl) dlaw_769 (fun v ws H locs hp hP hD hS => ?_)
  obtain ⟨rfl, X1, N1, rx1, rfl⟩ := hp
  have hP := ap_swP hP
  have hD := ap_swD hD
  refine lv_aload_n hx hb dlaw_772 rfl (lv_at hl 2 rfl) ?_
  refine lz_call E hP hD hS (c0 := nX6_restore) (as := []) (rest := [.int _]) rfl (by decide) rfl (xT_in 772 (by rfl) rfl) rfl rfl rfl pX6_restore (m_restore 0 rm) rfl (Nat.le_of_ble_eq_true rfl) (Nat.le_of_ble_eq_true rfl) dlaw_773 (fun v ws H locs hp hP hD hS => ?_)
  obtain ⟨rfl, a1, s2, rm1, rfl⟩ := hp
  exact lv_icmp_eq (tgt := 804) hx hb dlaw_776 (by decide) (fun _ => kk _ _ _ ⟨X1, N1, a1, s2, rx1, rm1, ap_swP hP, ap_swD hD⟩ hS) (fun h => absurd rfl h)
set_option maxHeartbeats 1000000 in
set_option maxRecDepth 20000 in
theorem lc_24 (E : lzE p s m meth c b L xs D cI A U V i ls cells slots) (kk : lzG p l e s m below meth c Q b D cI A U V ls cells slots 804) : lzG p l e s m below meth c Q b D cI A U V ls cells slots 781 := by
  intro S H locs hI hS
  obtain ⟨X, N, a, s1, rx, rm, hP, hD⟩ := hI
  obtain ⟨hx, hb, -, -, -, -, -, -, -, -⟩ := id E.1
  have hl := E.2.2.2.2.2.2.2.1
  refine lv_aload_n hx hb dlaw_781 rfl (lv_at hl 1 rfl) ?_
  refine lz_ld E hS 1 (by decide) rfl dlaw_782 dlaw_783 dlaw_784 dlaw_785 dlaw_786 ?_
  refine lz_call E hP hD hS (c0 := nX5_count) (as := [.int (xs (i + 1))]) (rest := []) rfl (by decide) rfl (xT_in 599 (by rfl) rfl) rfl rfl rfl pX5_count (x_count 0 rx (xs (i + 1))) rfl (Nat.le_of_ble_eq_true rfl) (Nat.le_of_ble_eq_true rfl) dlaw_787 (fun v ws H locs hp hP hD hS => ?_)
  obtain ⟨rfl, X1, N1, rx1, rfl⟩ := hp
  have hP := ap_swP hP
  have hD := ap_swD hD
  refine lv_aload_n hx hb dlaw_790 rfl (lv_at hl 2 rfl) ?_
  refine lz_ld E hS 1 (by decide) rfl dlaw_791 dlaw_792 dlaw_793 dlaw_794 dlaw_795 ?_
  refine lz_call E hP hD hS (c0 := nX6_count) (as := [.int (xs (i + 1))]) (rest := [.int _]) rfl (by decide) rfl (xT_in 948 (by rfl) rfl) rfl rfl rfl pX6_count (m_count 0 rm (xs (i + 1))) rfl (Nat.le_of_ble_eq_true rfl) (Nat.le_of_ble_eq_true rfl) dlaw_796 (fun v ws H locs hp hP hD hS => ?_)
  obtain ⟨rfl, a1, s2, rm1, rfl⟩ := hp
  exact lv_icmp_eq (tgt := 804) hx hb dlaw_799 (by decide) (fun _ => kk _ _ _ ⟨X1, N1, a1, s2, rx1, rm1, ap_swP hP, ap_swD hD⟩ hS) (fun h => absurd rfl h)
end LC

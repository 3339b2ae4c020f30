section LCS
variable {p : Program} {l : Launch} {e : Env} {s : State} {m : MethodId} {below : List Frame} {meth : Method} {c : Code} {H : Heap} {locs : List Loc} {cells slots : Nat} {Q : State → Prop}
variable {D : va_G} {ad : Nat → Nat} {cI cZ cJ : ClassId} {pc : Nat} {ls : Array Slot} {S : mS} {o sa : Nat} {g : Nat → Int64} {b L n : Nat} {xs : Nat → Int32} {rest : List Value}
set_option maxHeartbeats 4000000 in
theorem l_c_step (B : l_b p s m c b L xs D ad cI cZ cJ sa) (hn : 6 * n + 6 ≤ L) (hS : l_S D ad cI cZ cJ (l_A s) s H locs S o g) (hI : Inv n S) (hl : l_at ls ad b o n) (hR : cells ≤ 1068 ∧ slots ≤ 21951)
    (kk : ∀ (H1 : Heap) (locs1 : List Loc) (S' : mS), l_S D ad cI cZ cJ (l_A s) s H1 locs1 S' o g → Inv (n + 1) S' → W p l e room_1 s m #[Value.ref b] below meth c H1 locs1 cells slots Q (F0 m 538 ls [])) : W p l e room_1 s m #[Value.ref b] below meth c H locs cells slots Q (F0 m 108 ls []) := by
  have hx := B.1.1.1
  have hb := B.1.1.2.1
  have hLn : n ≤ 512 := by have := B.2.2.2.2.2; omega
  refine lv_aload_n hx hb w_108 rfl (lv_at hl 3 rfl) ?_
  refine l_rd (k := 1) B hS hl hn (by decide) (by decide) w_109 w_110 w_112 w_113 w_114 ?_
  refine l_rd (k := 2) B hS hl hn (by decide) (by decide) w_115 w_116 w_118 w_119 w_120 ?_
  refine l_rd (k := 3) B hS hl hn (by decide) (by decide) w_121 w_122 w_124 w_125 w_126 ?_
  refine l_rd (k := 4) B hS hl hn (by decide) (by decide) w_127 w_128 w_130 w_131 w_132 ?_
  refine l_rd (k := 5) B hS hl hn (by decide) (by decide) w_133 w_134 w_136 w_137 w_138 ?_
  refine l_call5 (M := n_X5_step) (as := [.int (xs (6 * n + 1)), .int (xs (6 * n + 2)), .int (xs (6 * n + 3)), .int (xs (6 * n + 4)), .int (xs (6 * n + 5))]) (rest := []) B hS hl (tw_step hI (xs (6 * n + 1)) (xs (6 * n + 2)) (xs (6 * n + 3)) (xs (6 * n + 4)) (xs (6 * n + 5))) (by decide) rfl (Nat.le_of_ble_eq_true rfl) w_k19 rfl (by decide +kernel) (Nat.zero_le _) hR w_139 (fun v S1 H1 locs1 hq hS1 => ?_)
  obtain ⟨⟨x, rfl⟩, hE⟩ := hq
  refine lv_aload_n hx hb w_142 rfl (lv_at hl 2 rfl) ?_
  refine l_rd (k := 1) B hS1 hl hn (by decide) (by decide) w_143 w_144 w_146 w_147 w_148 ?_
  refine l_rd (k := 2) B hS1 hl hn (by decide) (by decide) w_149 w_150 w_152 w_153 w_154 ?_
  refine l_rd (k := 3) B hS1 hl hn (by decide) (by decide) w_155 w_156 w_158 w_159 w_160 ?_
  refine l_rd (k := 4) B hS1 hl hn (by decide) (by decide) w_161 w_162 w_164 w_165 w_166 ?_
  refine l_rd (k := 5) B hS1 hl hn (by decide) (by decide) w_167 w_168 w_170 w_171 w_172 ?_
  refine l_call5 (M := n_X6_step) (as := [.int (xs (6 * n + 1)), .int (xs (6 * n + 2)), .int (xs (6 * n + 3)), .int (xs (6 * n + 4)), .int (xs (6 * n + 5))]) (rest := [.int x]) B hS1 hl hE (by decide) rfl (Nat.le_of_ble_eq_true rfl) w_k23 rfl (by decide +kernel) (Nat.le_of_ble_eq_true rfl) hR w_173 (fun v S2 H2 locs2 hq hS2 => ?_)
  obtain ⟨rfl, hI2⟩ := hq
  exact lv_icmp_eq (tgt := 538) hx hb w_176 (by decide) (fun _ => kk H2 locs2 S2 hS2 hI2) (fun h => absurd rfl h)
set_option maxHeartbeats 4000000 in
theorem l_c_clear (B : l_b p s m c b L xs D ad cI cZ cJ sa) (hn : 6 * n + 6 ≤ L) (hS : l_S D ad cI cZ cJ (l_A s) s H locs S o g) (hI : Inv n S) (hl : l_at ls ad b o n) (hR : cells ≤ 1068 ∧ slots ≤ 21951)
    (kk : ∀ (H1 : Heap) (locs1 : List Loc) (S' : mS), l_S D ad cI cZ cJ (l_A s) s H1 locs1 S' o g → Inv (n + 1) S' → W p l e room_1 s m #[Value.ref b] below meth c H1 locs1 cells slots Q (F0 m 538 ls [])) : W p l e room_1 s m #[Value.ref b] below meth c H locs cells slots Q (F0 m 181 ls []) := by
  have hx := B.1.1.1
  have hb := B.1.1.2.1
  have hLn : n ≤ 512 := by have := B.2.2.2.2.2; omega
  refine lv_aload_n hx hb w_181 rfl (lv_at hl 3 rfl) ?_
  refine l_call5 (M := n_X5_clear) (as := []) (rest := []) B hS hl (tw_clear hI) (by decide) rfl (Nat.le_of_ble_eq_true rfl) w_k24 rfl (by decide +kernel) (Nat.zero_le _) hR w_182 (fun v S1 H1 locs1 hq hS1 => ?_)
  obtain ⟨⟨x, rfl⟩, hE⟩ := hq
  refine lv_aload_n hx hb w_185 rfl (lv_at hl 2 rfl) ?_
  refine l_call5 (M := n_X6_clear) (as := []) (rest := [.int x]) B hS1 hl hE (by decide) rfl (Nat.le_of_ble_eq_true rfl) w_k27 rfl (by decide +kernel) (Nat.le_of_ble_eq_true rfl) hR w_186 (fun v S2 H2 locs2 hq hS2 => ?_)
  obtain ⟨rfl, hI2⟩ := hq
  exact lv_icmp_eq (tgt := 538) hx hb w_189 (by decide) (fun _ => kk H2 locs2 S2 hS2 hI2) (fun h => absurd rfl h)
set_option maxHeartbeats 4000000 in
theorem l_c_run (B : l_b p s m c b L xs D ad cI cZ cJ sa) (hn : 6 * n + 6 ≤ L) (hS : l_S D ad cI cZ cJ (l_A s) s H locs S o g) (hI : Inv n S) (hl : l_at ls ad b o n) (hR : cells ≤ 1068 ∧ slots ≤ 21951)
    (kk : ∀ (H1 : Heap) (locs1 : List Loc) (S' : mS), l_S D ad cI cZ cJ (l_A s) s H1 locs1 S' o g → Inv (n + 1) S' → W p l e room_1 s m #[Value.ref b] below meth c H1 locs1 cells slots Q (F0 m 538 ls [])) : W p l e room_1 s m #[Value.ref b] below meth c H locs cells slots Q (F0 m 194 ls []) := by
  have hx := B.1.1.1
  have hb := B.1.1.2.1
  have hLn : n ≤ 512 := by have := B.2.2.2.2.2; omega
  refine lv_aload_n hx hb w_194 rfl (lv_at hl 3 rfl) ?_
  refine l_rd (k := 1) B hS hl hn (by decide) (by decide) w_195 w_196 w_198 w_199 w_200 ?_
  refine l_rd (k := 2) B hS hl hn (by decide) (by decide) w_201 w_202 w_204 w_205 w_206 ?_
  refine l_call5 (M := n_X5_run) (as := [.int (xs (6 * n + 1)), .int (xs (6 * n + 2))]) (rest := []) B hS hl (tw_run hI hLn (xs (6 * n + 1)) (xs (6 * n + 2))) (by decide) rfl (Nat.le_of_ble_eq_true rfl) w_k28 rfl (by decide +kernel) (Nat.zero_le _) hR w_207 (fun v S1 H1 locs1 hq hS1 => ?_)
  obtain ⟨⟨x, rfl⟩, hE⟩ := hq
  refine lv_aload_n hx hb w_210 rfl (lv_at hl 2 rfl) ?_
  refine l_rd (k := 1) B hS1 hl hn (by decide) (by decide) w_211 w_212 w_214 w_215 w_216 ?_
  refine l_rd (k := 2) B hS1 hl hn (by decide) (by decide) w_217 w_218 w_220 w_221 w_222 ?_
  refine l_call5 (M := n_X6_run) (as := [.int (xs (6 * n + 1)), .int (xs (6 * n + 2))]) (rest := [.int x]) B hS1 hl hE (by decide) rfl (Nat.le_of_ble_eq_true rfl) w_k32 rfl (by decide +kernel) (Nat.le_of_ble_eq_true rfl) hR w_223 (fun v S2 H2 locs2 hq hS2 => ?_)
  obtain ⟨rfl, hI2⟩ := hq
  exact lv_icmp_eq (tgt := 538) hx hb w_226 (by decide) (fun _ => kk H2 locs2 S2 hS2 hI2) (fun h => absurd rfl h)
set_option maxHeartbeats 4000000 in
theorem l_c_ran (B : l_b p s m c b L xs D ad cI cZ cJ sa) (hn : 6 * n + 6 ≤ L) (hS : l_S D ad cI cZ cJ (l_A s) s H locs S o g) (hI : Inv n S) (hl : l_at ls ad b o n) (hR : cells ≤ 1068 ∧ slots ≤ 21951)
    (kk : ∀ (H1 : Heap) (locs1 : List Loc) (S' : mS), l_S D ad cI cZ cJ (l_A s) s H1 locs1 S' o g → Inv (n + 1) S' → W p l e room_1 s m #[Value.ref b] below meth c H1 locs1 cells slots Q (F0 m 538 ls [])) : W p l e room_1 s m #[Value.ref b] below meth c H locs cells slots Q (F0 m 231 ls []) := by
  have hx := B.1.1.1
  have hb := B.1.1.2.1
  have hLn : n ≤ 512 := by have := B.2.2.2.2.2; omega
  refine lv_aload_n hx hb w_231 rfl (lv_at hl 3 rfl) ?_
  refine l_rd (k := 1) B hS hl hn (by decide) (by decide) w_232 w_233 w_235 w_236 w_237 ?_
  refine l_call5 (M := n_X5_ran) (as := [.int (xs (6 * n + 1))]) (rest := []) B hS hl (tw_ran hI (xs (6 * n + 1))) (by decide) rfl (Nat.le_of_ble_eq_true rfl) w_k33 rfl (by decide +kernel) (Nat.zero_le _) hR w_238 (fun v S1 H1 locs1 hq hS1 => ?_)
  obtain ⟨⟨x, rfl⟩, hE⟩ := hq
  refine lv_aload_n hx hb w_241 rfl (lv_at hl 2 rfl) ?_
  refine l_rd (k := 1) B hS1 hl hn (by decide) (by decide) w_242 w_243 w_245 w_246 w_247 ?_
  refine l_call5 (M := n_X6_ran) (as := [.int (xs (6 * n + 1))]) (rest := [.long x]) B hS1 hl hE (by decide) rfl (Nat.le_of_ble_eq_true rfl) w_k37 rfl (by decide +kernel) (Nat.le_of_ble_eq_true rfl) hR w_248 (fun v S2 H2 locs2 hq hS2 => ?_)
  obtain ⟨rfl, hI2⟩ := hq
  refine W.lcmp hx hb w_251 ?_
  exact lv_if_eq (tgt := 538) hx hb w_252 (by decide) (fun _ => kk H2 locs2 S2 hS2 hI2) (fun h => absurd (l_cmp rfl) h)
set_option maxHeartbeats 4000000 in
theorem l_c_variable (B : l_b p s m c b L xs D ad cI cZ cJ sa) (hn : 6 * n + 6 ≤ L) (hS : l_S D ad cI cZ cJ (l_A s) s H locs S o g) (hI : Inv n S) (hl : l_at ls ad b o n) (hR : cells ≤ 1068 ∧ slots ≤ 21951)
    (kk : ∀ (H1 : Heap) (locs1 : List Loc) (S' : mS), l_S D ad cI cZ cJ (l_A s) s H1 locs1 S' o g → Inv (n + 1) S' → W p l e room_1 s m #[Value.ref b] below meth c H1 locs1 cells slots Q (F0 m 538 ls [])) : W p l e room_1 s m #[Value.ref b] below meth c H locs cells slots Q (F0 m 257 ls []) := by
  have hx := B.1.1.1
  have hb := B.1.1.2.1
  have hLn : n ≤ 512 := by have := B.2.2.2.2.2; omega
  refine lv_aload_n hx hb w_257 rfl (lv_at hl 3 rfl) ?_
  refine l_rd (k := 1) B hS hl hn (by decide) (by decide) w_258 w_259 w_261 w_262 w_263 ?_
  refine l_rd (k := 2) B hS hl hn (by decide) (by decide) w_264 w_265 w_267 w_268 w_269 ?_
  refine l_call5 (M := n_X5_variable) (as := [.int (xs (6 * n + 1)), .int (xs (6 * n + 2))]) (rest := []) B hS hl (tw_variable hI (xs (6 * n + 1)) (xs (6 * n + 2))) (by decide) rfl (Nat.le_of_ble_eq_true rfl) w_k38 rfl (by decide +kernel) (Nat.zero_le _) hR w_270 (fun v S1 H1 locs1 hq hS1 => ?_)
  obtain ⟨⟨x, rfl⟩, hE⟩ := hq
  refine lv_aload_n hx hb w_273 rfl (lv_at hl 2 rfl) ?_
  refine l_rd (k := 1) B hS1 hl hn (by decide) (by decide) w_274 w_275 w_277 w_278 w_279 ?_
  refine l_rd (k := 2) B hS1 hl hn (by decide) (by decide) w_280 w_281 w_283 w_284 w_285 ?_
  refine l_call5 (M := n_X6_variable) (as := [.int (xs (6 * n + 1)), .int (xs (6 * n + 2))]) (rest := [.int x]) B hS1 hl hE (by decide) rfl (Nat.le_of_ble_eq_true rfl) w_k41 rfl (by decide +kernel) (Nat.le_of_ble_eq_true rfl) hR w_286 (fun v S2 H2 locs2 hq hS2 => ?_)
  obtain ⟨rfl, hI2⟩ := hq
  exact lv_icmp_eq (tgt := 538) hx hb w_289 (by decide) (fun _ => kk H2 locs2 S2 hS2 hI2) (fun h => absurd rfl h)
set_option maxHeartbeats 4000000 in
theorem l_c_number (B : l_b p s m c b L xs D ad cI cZ cJ sa) (hn : 6 * n + 6 ≤ L) (hS : l_S D ad cI cZ cJ (l_A s) s H locs S o g) (hI : Inv n S) (hl : l_at ls ad b o n) (hR : cells ≤ 1068 ∧ slots ≤ 21951)
    (kk : ∀ (H1 : Heap) (locs1 : List Loc) (S' : mS), l_S D ad cI cZ cJ (l_A s) s H1 locs1 S' o g → Inv (n + 1) S' → W p l e room_1 s m #[Value.ref b] below meth c H1 locs1 cells slots Q (F0 m 538 ls [])) : W p l e room_1 s m #[Value.ref b] below meth c H locs cells slots Q (F0 m 294 ls []) := by
  have hx := B.1.1.1
  have hb := B.1.1.2.1
  have hLn : n ≤ 512 := by have := B.2.2.2.2.2; omega
  refine lv_aload_n hx hb w_294 rfl (lv_at hl 3 rfl) ?_
  refine l_rd (k := 1) B hS hl hn (by decide) (by decide) w_295 w_296 w_298 w_299 w_300 ?_
  refine l_call5 (M := n_X5_number) (as := [.int (xs (6 * n + 1))]) (rest := []) B hS hl (tw_number hI (xs (6 * n + 1))) (by decide) rfl (Nat.le_of_ble_eq_true rfl) w_k42 rfl (by decide +kernel) (Nat.zero_le _) hR w_301 (fun v S1 H1 locs1 hq hS1 => ?_)
  obtain ⟨⟨x, rfl⟩, hE⟩ := hq
  refine lv_aload_n hx hb w_304 rfl (lv_at hl 2 rfl) ?_
  refine l_rd (k := 1) B hS1 hl hn (by decide) (by decide) w_305 w_306 w_308 w_309 w_310 ?_
  refine l_call5 (M := n_X6_number) (as := [.int (xs (6 * n + 1))]) (rest := [.long x]) B hS1 hl hE (by decide) rfl (Nat.le_of_ble_eq_true rfl) w_k45 rfl (by decide +kernel) (Nat.le_of_ble_eq_true rfl) hR w_311 (fun v S2 H2 locs2 hq hS2 => ?_)
  obtain ⟨rfl, hI2⟩ := hq
  refine W.lcmp hx hb w_314 ?_
  exact lv_if_eq (tgt := 538) hx hb w_315 (by decide) (fun _ => kk H2 locs2 S2 hS2 hI2) (fun h => absurd (l_cmp rfl) h)
set_option maxHeartbeats 4000000 in
theorem l_c_seen (B : l_b p s m c b L xs D ad cI cZ cJ sa) (hn : 6 * n + 6 ≤ L) (hS : l_S D ad cI cZ cJ (l_A s) s H locs S o g) (hI : Inv n S) (hl : l_at ls ad b o n) (hR : cells ≤ 1068 ∧ slots ≤ 21951)
    (kk : ∀ (H1 : Heap) (locs1 : List Loc) (S' : mS), l_S D ad cI cZ cJ (l_A s) s H1 locs1 S' o g → Inv (n + 1) S' → W p l e room_1 s m #[Value.ref b] below meth c H1 locs1 cells slots Q (F0 m 538 ls [])) : W p l e room_1 s m #[Value.ref b] below meth c H locs cells slots Q (F0 m 320 ls []) := by
  have hx := B.1.1.1
  have hb := B.1.1.2.1
  have hLn : n ≤ 512 := by have := B.2.2.2.2.2; omega
  refine lv_aload_n hx hb w_320 rfl (lv_at hl 3 rfl) ?_
  refine l_rd (k := 1) B hS hl hn (by decide) (by decide) w_321 w_322 w_324 w_325 w_326 ?_
  refine l_rd (k := 2) B hS hl hn (by decide) (by decide) w_327 w_328 w_330 w_331 w_332 ?_
  refine l_call5 (M := n_X5_seen) (as := [.int (xs (6 * n + 1)), .int (xs (6 * n + 2))]) (rest := []) B hS hl (tw_seen hI (xs (6 * n + 1)) (xs (6 * n + 2))) (by decide) rfl (Nat.le_of_ble_eq_true rfl) w_k46 rfl (by decide +kernel) (Nat.zero_le _) hR w_333 (fun v S1 H1 locs1 hq hS1 => ?_)
  obtain ⟨⟨x, rfl⟩, hE⟩ := hq
  refine lv_aload_n hx hb w_336 rfl (lv_at hl 2 rfl) ?_
  refine l_rd (k := 1) B hS1 hl hn (by decide) (by decide) w_337 w_338 w_340 w_341 w_342 ?_
  refine l_rd (k := 2) B hS1 hl hn (by decide) (by decide) w_343 w_344 w_346 w_347 w_348 ?_
  refine l_call5 (M := n_X6_seen) (as := [.int (xs (6 * n + 1)), .int (xs (6 * n + 2))]) (rest := [.int x]) B hS1 hl hE (by decide) rfl (Nat.le_of_ble_eq_true rfl) w_k49 rfl (by decide +kernel) (Nat.le_of_ble_eq_true rfl) hR w_349 (fun v S2 H2 locs2 hq hS2 => ?_)
  obtain ⟨rfl, hI2⟩ := hq
  exact lv_icmp_eq (tgt := 538) hx hb w_352 (by decide) (fun _ => kk H2 locs2 S2 hS2 hI2) (fun h => absurd rfl h)
set_option maxHeartbeats 4000000 in
theorem l_c_had (B : l_b p s m c b L xs D ad cI cZ cJ sa) (hn : 6 * n + 6 ≤ L) (hS : l_S D ad cI cZ cJ (l_A s) s H locs S o g) (hI : Inv n S) (hl : l_at ls ad b o n) (hR : cells ≤ 1068 ∧ slots ≤ 21951)
    (kk : ∀ (H1 : Heap) (locs1 : List Loc) (S' : mS), l_S D ad cI cZ cJ (l_A s) s H1 locs1 S' o g → Inv (n + 1) S' → W p l e room_1 s m #[Value.ref b] below meth c H1 locs1 cells slots Q (F0 m 538 ls [])) : W p l e room_1 s m #[Value.ref b] below meth c H locs cells slots Q (F0 m 357 ls []) := by
  have hx := B.1.1.1
  have hb := B.1.1.2.1
  have hLn : n ≤ 512 := by have := B.2.2.2.2.2; omega
  refine lv_aload_n hx hb w_357 rfl (lv_at hl 3 rfl) ?_
  refine l_rd (k := 1) B hS hl hn (by decide) (by decide) w_358 w_359 w_361 w_362 w_363 ?_
  refine l_call5 (M := n_X5_had) (as := [.int (xs (6 * n + 1))]) (rest := []) B hS hl (tw_had hI (xs (6 * n + 1))) (by decide) rfl (Nat.le_of_ble_eq_true rfl) w_k50 rfl (by decide +kernel) (Nat.zero_le _) hR w_364 (fun v S1 H1 locs1 hq hS1 => ?_)
  obtain ⟨⟨x, rfl⟩, hE⟩ := hq
  refine lv_aload_n hx hb w_367 rfl (lv_at hl 2 rfl) ?_
  refine l_rd (k := 1) B hS1 hl hn (by decide) (by decide) w_368 w_369 w_371 w_372 w_373 ?_
  refine l_call5 (M := n_X6_had) (as := [.int (xs (6 * n + 1))]) (rest := [.int x]) B hS1 hl hE (by decide) rfl (Nat.le_of_ble_eq_true rfl) w_k54 rfl (by decide +kernel) (Nat.le_of_ble_eq_true rfl) hR w_374 (fun v S2 H2 locs2 hq hS2 => ?_)
  obtain ⟨rfl, hI2⟩ := hq
  exact lv_icmp_eq (tgt := 538) hx hb w_377 (by decide) (fun _ => kk H2 locs2 S2 hS2 hI2) (fun h => absurd rfl h)
set_option maxHeartbeats 4000000 in
theorem l_c_may (B : l_b p s m c b L xs D ad cI cZ cJ sa) (hn : 6 * n + 6 ≤ L) (hS : l_S D ad cI cZ cJ (l_A s) s H locs S o g) (hI : Inv n S) (hl : l_at ls ad b o n) (hR : cells ≤ 1068 ∧ slots ≤ 21951)
    (kk : ∀ (H1 : Heap) (locs1 : List Loc) (S' : mS), l_S D ad cI cZ cJ (l_A s) s H1 locs1 S' o g → Inv (n + 1) S' → W p l e room_1 s m #[Value.ref b] below meth c H1 locs1 cells slots Q (F0 m 538 ls [])) : W p l e room_1 s m #[Value.ref b] below meth c H locs cells slots Q (F0 m 382 ls []) := by
  have hx := B.1.1.1
  have hb := B.1.1.2.1
  have hLn : n ≤ 512 := by have := B.2.2.2.2.2; omega
  refine lv_aload_n hx hb w_382 rfl (lv_at hl 3 rfl) ?_
  refine l_rd (k := 1) B hS hl hn (by decide) (by decide) w_383 w_384 w_386 w_387 w_388 ?_
  refine l_rd (k := 2) B hS hl hn (by decide) (by decide) w_389 w_390 w_392 w_393 w_394 ?_
  refine l_call5 (M := n_X5_may) (as := [.int (xs (6 * n + 1)), .int (xs (6 * n + 2))]) (rest := []) B hS hl (tw_may hI (xs (6 * n + 1)) (xs (6 * n + 2))) (by decide) rfl (Nat.le_of_ble_eq_true rfl) w_k55 rfl (by decide +kernel) (Nat.zero_le _) hR w_395 (fun v S1 H1 locs1 hq hS1 => ?_)
  obtain ⟨⟨x, rfl⟩, hE⟩ := hq
  refine lv_aload_n hx hb w_398 rfl (lv_at hl 2 rfl) ?_
  refine l_rd (k := 1) B hS1 hl hn (by decide) (by decide) w_399 w_400 w_402 w_403 w_404 ?_
  refine l_rd (k := 2) B hS1 hl hn (by decide) (by decide) w_405 w_406 w_408 w_409 w_410 ?_
  refine l_call5 (M := n_X6_may) (as := [.int (xs (6 * n + 1)), .int (xs (6 * n + 2))]) (rest := [.int x]) B hS1 hl hE (by decide) rfl (Nat.le_of_ble_eq_true rfl) w_k58 rfl (by decide +kernel) (Nat.le_of_ble_eq_true rfl) hR w_411 (fun v S2 H2 locs2 hq hS2 => ?_)
  obtain ⟨rfl, hI2⟩ := hq
  exact lv_icmp_eq (tgt := 538) hx hb w_414 (by decide) (fun _ => kk H2 locs2 S2 hS2 hI2) (fun h => absurd rfl h)
set_option maxHeartbeats 4000000 in
theorem l_c_faults (B : l_b p s m c b L xs D ad cI cZ cJ sa) (hn : 6 * n + 6 ≤ L) (hS : l_S D ad cI cZ cJ (l_A s) s H locs S o g) (hI : Inv n S) (hl : l_at ls ad b o n) (hR : cells ≤ 1068 ∧ slots ≤ 21951)
    (kk : ∀ (H1 : Heap) (locs1 : List Loc) (S' : mS), l_S D ad cI cZ cJ (l_A s) s H1 locs1 S' o g → Inv (n + 1) S' → W p l e room_1 s m #[Value.ref b] below meth c H1 locs1 cells slots Q (F0 m 538 ls [])) : W p l e room_1 s m #[Value.ref b] below meth c H locs cells slots Q (F0 m 419 ls []) := by
  have hx := B.1.1.1
  have hb := B.1.1.2.1
  have hLn : n ≤ 512 := by have := B.2.2.2.2.2; omega
  refine lv_aload_n hx hb w_419 rfl (lv_at hl 3 rfl) ?_
  refine l_rd (k := 1) B hS hl hn (by decide) (by decide) w_420 w_421 w_423 w_424 w_425 ?_
  refine l_call5 (M := n_X5_faults) (as := [.int (xs (6 * n + 1))]) (rest := []) B hS hl (tw_faults hI (xs (6 * n + 1))) (by decide) rfl (Nat.le_of_ble_eq_true rfl) w_k59 rfl (by decide +kernel) (Nat.zero_le _) hR w_426 (fun v S1 H1 locs1 hq hS1 => ?_)
  obtain ⟨⟨x, rfl⟩, hE⟩ := hq
  refine lv_aload_n hx hb w_429 rfl (lv_at hl 2 rfl) ?_
  refine l_rd (k := 1) B hS1 hl hn (by decide) (by decide) w_430 w_431 w_433 w_434 w_435 ?_
  refine l_call5 (M := n_X6_faults) (as := [.int (xs (6 * n + 1))]) (rest := [.int x]) B hS1 hl hE (by decide) rfl (Nat.le_of_ble_eq_true rfl) w_k62 rfl (by decide +kernel) (Nat.le_of_ble_eq_true rfl) hR w_436 (fun v S2 H2 locs2 hq hS2 => ?_)
  obtain ⟨rfl, hI2⟩ := hq
  exact lv_icmp_eq (tgt := 538) hx hb w_439 (by decide) (fun _ => kk H2 locs2 S2 hS2 hI2) (fun h => absurd rfl h)
set_option maxHeartbeats 4000000 in
theorem l_c_cast (B : l_b p s m c b L xs D ad cI cZ cJ sa) (hn : 6 * n + 6 ≤ L) (hS : l_S D ad cI cZ cJ (l_A s) s H locs S o g) (hI : Inv n S) (hl : l_at ls ad b o n) (hR : cells ≤ 1068 ∧ slots ≤ 21951)
    (kk : ∀ (H1 : Heap) (locs1 : List Loc) (S' : mS), l_S D ad cI cZ cJ (l_A s) s H1 locs1 S' o g → Inv (n + 1) S' → W p l e room_1 s m #[Value.ref b] below meth c H1 locs1 cells slots Q (F0 m 538 ls [])) : W p l e room_1 s m #[Value.ref b] below meth c H locs cells slots Q (F0 m 444 ls []) := by
  have hx := B.1.1.1
  have hb := B.1.1.2.1
  have hLn : n ≤ 512 := by have := B.2.2.2.2.2; omega
  refine lv_aload_n hx hb w_444 rfl (lv_at hl 3 rfl) ?_
  refine l_rd (k := 1) B hS hl hn (by decide) (by decide) w_445 w_446 w_448 w_449 w_450 ?_
  refine l_call5 (M := n_X5_cast) (as := [.int (xs (6 * n + 1))]) (rest := []) B hS hl (tw_cast hI (xs (6 * n + 1))) (by decide) rfl (Nat.le_of_ble_eq_true rfl) w_k63 rfl (by decide +kernel) (Nat.zero_le _) hR w_451 (fun v S1 H1 locs1 hq hS1 => ?_)
  obtain ⟨⟨x, rfl⟩, hE⟩ := hq
  refine lv_aload_n hx hb w_454 rfl (lv_at hl 2 rfl) ?_
  refine l_rd (k := 1) B hS1 hl hn (by decide) (by decide) w_455 w_456 w_458 w_459 w_460 ?_
  refine l_call5 (M := n_X6_cast) (as := [.int (xs (6 * n + 1))]) (rest := [.int x]) B hS1 hl hE (by decide) rfl (Nat.le_of_ble_eq_true rfl) w_k66 rfl (by decide +kernel) (Nat.le_of_ble_eq_true rfl) hR w_461 (fun v S2 H2 locs2 hq hS2 => ?_)
  obtain ⟨rfl, hI2⟩ := hq
  exact lv_icmp_eq (tgt := 538) hx hb w_464 (by decide) (fun _ => kk H2 locs2 S2 hS2 hI2) (fun h => absurd rfl h)
set_option maxHeartbeats 4000000 in
theorem l_c_all (B : l_b p s m c b L xs D ad cI cZ cJ sa) (hn : 6 * n + 6 ≤ L) (hS : l_S D ad cI cZ cJ (l_A s) s H locs S o g) (hI : Inv n S) (hl : l_at ls ad b o n) (hR : cells ≤ 1068 ∧ slots ≤ 21951)
    (kk : ∀ (H1 : Heap) (locs1 : List Loc) (S' : mS), l_S D ad cI cZ cJ (l_A s) s H1 locs1 S' o g → Inv (n + 1) S' → W p l e room_1 s m #[Value.ref b] below meth c H1 locs1 cells slots Q (F0 m 538 ls [])) : W p l e room_1 s m #[Value.ref b] below meth c H locs cells slots Q (F0 m 469 ls []) := by
  have hx := B.1.1.1
  have hb := B.1.1.2.1
  have hLn : n ≤ 512 := by have := B.2.2.2.2.2; omega
  refine lv_aload_n hx hb w_469 rfl (lv_at hl 3 rfl) ?_
  refine l_rd (k := 1) B hS hl hn (by decide) (by decide) w_470 w_471 w_473 w_474 w_475 ?_
  refine l_call5 (M := n_X5_all) (as := [.int (xs (6 * n + 1))]) (rest := []) B hS hl (tw_all hI (xs (6 * n + 1))) (by decide) rfl (Nat.le_of_ble_eq_true rfl) w_k67 rfl (by decide +kernel) (Nat.zero_le _) hR w_476 (fun v S1 H1 locs1 hq hS1 => ?_)
  obtain ⟨⟨x, rfl⟩, hE⟩ := hq
  refine lv_aload_n hx hb w_479 rfl (lv_at hl 2 rfl) ?_
  refine l_rd (k := 1) B hS1 hl hn (by decide) (by decide) w_480 w_481 w_483 w_484 w_485 ?_
  refine l_call5 (M := n_X6_all) (as := [.int (xs (6 * n + 1))]) (rest := [.int x]) B hS1 hl hE (by decide) rfl (Nat.le_of_ble_eq_true rfl) w_k70 rfl (by decide +kernel) (Nat.le_of_ble_eq_true rfl) hR w_486 (fun v S2 H2 locs2 hq hS2 => ?_)
  obtain ⟨rfl, hI2⟩ := hq
  exact lv_icmp_eq (tgt := 538) hx hb w_489 (by decide) (fun _ => kk H2 locs2 S2 hS2 hI2) (fun h => absurd rfl h)
end LCS

/-! THE LAW, three: each call, on both sides -/
section NI
variable {p : Program} {l : Launch} {e : Env} {s : State} {m : MethodId} {below : List Frame} {meth : Method} {c : Code} {b L : Nat} {xs : Nat → Int32} {D : va_G} {cA : Nat → ClassId} {ro : Nat → Nat} {H : Heap} {locs : List Loc} {Z : State → Prop} {ls : Array Slot} {gi : Gi} {gl : Gl} {σ : Sta} {n i : Nat}
/-- a number of the script, whether it isn't 0 -/
theorem lw_bool {pc t1 t2 : Nat} {o1 o2 : Int} {cells slots : Nat} {st : List Value} {v : Int32} (X : LwC p s m meth c b L xs D cA ro) (d0 : decode code pc = .ok (.ifCond .eq o1, 3)) (h1 : (pc : Int) + o1 = (t1 : Int)) (d1 : decode code (pc + 3) = .ok (.iconst 1, 1)) (d2 : decode code (pc + 4) = .ok (.goto o2, 3)) (h2 : ((pc + 4 : Nat) : Int) + o2 = (t2 : Int)) (d3 : decode code t1 = .ok (.iconst 0, 1)) (h3 : t1 + 1 = t2)
    (kk : W p l e room_1 s m #[Value.ref b] below meth c H locs cells slots Z (F0 m t2 ls (.int (b2i (decide (v ≠ 0))) :: st))) : W p l e room_1 s m #[Value.ref b] below meth c H locs cells slots Z (F0 m pc ls (.int v :: st)) := by
  refine lv_if_eq X.hx X.hb d0 h1 (fun q => ?_) (fun q => ?_)
  · refine lv_iconst (v := 0) X.hx X.hb d3 (by decide) ?_
    rw [decide_eq_false (not_not_intro q)] at kk
    rw [h3]; exact kk
  · refine lv_iconst (v := 1) X.hx X.hb d1 (by decide) ?_
    refine lv_goto X.hx X.hb d2 h2 ?_
    rw [decide_eq_true q] at kk
    exact kk
set_option maxRecDepth 100000 in
theorem lw_k0 (X : LwC p s m meth c b L xs D cA ro) (hl : LwL s b i ls) (hi : i + 6 ≤ L) (hL : L ≤ 3072) (j : J σ n gi gl) (hn : n ≤ 600) (hW : Wd s.heap.size D cA κF gi gl H) (hS : va_S (Ab s.heap.size) s.heap H locs) (cont : ∀ g l' H1 locs1, J1 n g l' → Wd s.heap.size D cA κF g l' H1 → va_S (Ab s.heap.size) s.heap H1 locs1 → W p l e room_1 s m #[Value.ref b] below meth c H1 locs1 NN (sl NN) Z (F0 m 1059 ls [])) : W p l e room_1 s m #[Value.ref b] below meth c H locs NN (sl NN) Z (F0 m 152 ls []) := by
  refine lv_aload_n X.hx X.hb dL_law_152 rfl (lv_at hl 2 rfl) ?_
  refine lw_arg (k := 1) X hl hS (by decide) (by omega) hL dL_law_153 dL_law_154 dL_law_155 dL_law_156 dL_law_157 ?_
  refine lw_arg (k := 2) X hl hS (by decide) (by omega) hL dL_law_158 dL_law_159 dL_law_160 dL_law_161 dL_law_162 ?_
  refine lw_arg (k := 3) X hl hS (by decide) (by omega) hL dL_law_163 dL_law_164 dL_law_165 dL_law_166 dL_law_167 ?_
  refine lw_arg (k := 4) X hl hS (by decide) (by omega) hL dL_law_168 dL_law_169 dL_law_170 dL_law_171 dL_law_172 ?_
  refine lw_arg (k := 5) X hl hS (by decide) (by omega) hL dL_law_173 dL_law_174 dL_law_175 dL_law_176 dL_law_177 ?_
  refine lw_calI (N := mX11_feed) (bb := 0) (ci := 11) (As := [xs (i + 1), xs (i + 2), xs (i + 3), xs (i + 4), xs (i + 5)]) (st := []) X dL_law_178 lk_L_13.1 lk_L_13.2 (by decide +kernel) (by decide +kernel) (by decide) rfl (by decide) rfl (Nat.le_of_ble_eq_true rfl) rfl (Nat.le_of_ble_eq_true rfl) hl.1 rfl hW hS (b_feed j hn) (fun r1 g1 l1 H1 locs1 k1 hW1 hS1 => ?_)
  refine lv_aload_n X.hx X.hb dL_law_181 rfl (lv_at hl 3 rfl) ?_
  refine lw_arg (k := 1) X hl hS1 (by decide) (by omega) hL dL_law_182 dL_law_183 dL_law_184 dL_law_185 dL_law_186 ?_
  refine lw_arg (k := 2) X hl hS1 (by decide) (by omega) hL dL_law_187 dL_law_188 dL_law_189 dL_law_190 dL_law_191 ?_
  refine lw_arg (k := 3) X hl hS1 (by decide) (by omega) hL dL_law_192 dL_law_193 dL_law_194 dL_law_195 dL_law_196 ?_
  refine lw_arg (k := 4) X hl hS1 (by decide) (by omega) hL dL_law_197 dL_law_198 dL_law_199 dL_law_200 dL_law_201 ?_
  refine lw_arg (k := 5) X hl hS1 (by decide) (by omega) hL dL_law_202 dL_law_203 dL_law_204 dL_law_205 dL_law_206 ?_
  refine lw_calI (N := mX12_feed) (bb := 329) (ci := 12) (As := [xs (i + 1), xs (i + 2), xs (i + 3), xs (i + 4), xs (i + 5)]) (st := [.int r1]) X dL_law_207 lk_L_17.1 lk_L_17.2 (by decide +kernel) (by decide +kernel) (by decide) rfl (by decide) rfl (Nat.le_of_ble_eq_true rfl) rfl (Nat.le_of_ble_eq_true rfl) hl.1 rfl hW1 hS1 (k1) (fun r2 g2 l2 H2 locs2 k2 hW2 hS2 => ?_)
  exact lv_icmp_eq (tgt := 1059) X.hx X.hb dL_law_210 (by decide) (fun _ => cont _ _ _ _ k2.2 hW2 hS2) (fun q => absurd k2.1 q)
set_option maxRecDepth 100000 in
theorem lw_k1 (X : LwC p s m meth c b L xs D cA ro) (hl : LwL s b i ls) (hi : i + 6 ≤ L) (hL : L ≤ 3072) (j : J σ n gi gl) (hn : n ≤ 600) (hW : Wd s.heap.size D cA κF gi gl H) (hS : va_S (Ab s.heap.size) s.heap H locs) (cont : ∀ g l' H1 locs1, J1 n g l' → Wd s.heap.size D cA κF g l' H1 → va_S (Ab s.heap.size) s.heap H1 locs1 → W p l e room_1 s m #[Value.ref b] below meth c H1 locs1 NN (sl NN) Z (F0 m 1059 ls [])) : W p l e room_1 s m #[Value.ref b] below meth c H locs NN (sl NN) Z (F0 m 215 ls []) := by
  refine lv_aload_n X.hx X.hb dL_law_215 rfl (lv_at hl 2 rfl) ?_
  refine lw_arg (k := 1) X hl hS (by decide) (by omega) hL dL_law_216 dL_law_217 dL_law_218 dL_law_219 dL_law_220 ?_
  refine lw_calI (N := mX11_town) (bb := 0) (ci := 11) (As := [xs (i + 1)]) (st := []) X dL_law_221 lk_L_18.1 lk_L_18.2 (by decide +kernel) (by decide +kernel) (by decide) rfl (by decide) rfl (Nat.le_of_ble_eq_true rfl) rfl (Nat.le_of_ble_eq_true rfl) hl.1 rfl hW hS (b_town j hn) (fun r1 g1 l1 H1 locs1 k1 hW1 hS1 => ?_)
  refine lv_aload_n X.hx X.hb dL_law_224 rfl (lv_at hl 3 rfl) ?_
  refine lw_arg (k := 1) X hl hS1 (by decide) (by omega) hL dL_law_225 dL_law_226 dL_law_227 dL_law_228 dL_law_229 ?_
  refine lw_calI (N := mX12_town) (bb := 329) (ci := 12) (As := [xs (i + 1)]) (st := [.int r1]) X dL_law_230 lk_L_22.1 lk_L_22.2 (by decide +kernel) (by decide +kernel) (by decide) rfl (by decide) rfl (Nat.le_of_ble_eq_true rfl) rfl (Nat.le_of_ble_eq_true rfl) hl.1 rfl hW1 hS1 (k1) (fun r2 g2 l2 H2 locs2 k2 hW2 hS2 => ?_)
  exact lv_icmp_eq (tgt := 1059) X.hx X.hb dL_law_233 (by decide) (fun _ => cont _ _ _ _ k2.2 hW2 hS2) (fun q => absurd k2.1 q)
set_option maxRecDepth 100000 in
theorem lw_k2 (X : LwC p s m meth c b L xs D cA ro) (hl : LwL s b i ls) (hi : i + 6 ≤ L) (hL : L ≤ 3072) (j : J σ n gi gl) (hn : n ≤ 600) (hW : Wd s.heap.size D cA κF gi gl H) (hS : va_S (Ab s.heap.size) s.heap H locs) (cont : ∀ g l' H1 locs1, J1 n g l' → Wd s.heap.size D cA κF g l' H1 → va_S (Ab s.heap.size) s.heap H1 locs1 → W p l e room_1 s m #[Value.ref b] below meth c H1 locs1 NN (sl NN) Z (F0 m 1059 ls [])) : W p l e room_1 s m #[Value.ref b] below meth c H locs NN (sl NN) Z (F0 m 238 ls []) := by
  refine lv_aload_n X.hx X.hb dL_law_238 rfl (lv_at hl 2 rfl) ?_
  refine lw_arg (k := 1) X hl hS (by decide) (by omega) hL dL_law_239 dL_law_240 dL_law_241 dL_law_242 dL_law_243 ?_
  refine lw_calI (N := mX11_picture) (bb := 0) (ci := 11) (As := [xs (i + 1)]) (st := []) X dL_law_244 lk_L_23.1 lk_L_23.2 (by decide +kernel) (by decide +kernel) (by decide) rfl (by decide) rfl (Nat.le_of_ble_eq_true rfl) rfl (Nat.le_of_ble_eq_true rfl) hl.1 rfl hW hS (b_picture j hn) (fun r1 g1 l1 H1 locs1 k1 hW1 hS1 => ?_)
  refine lv_aload_n X.hx X.hb dL_law_247 rfl (lv_at hl 3 rfl) ?_
  refine lw_arg (k := 1) X hl hS1 (by decide) (by omega) hL dL_law_248 dL_law_249 dL_law_250 dL_law_251 dL_law_252 ?_
  refine lw_calI (N := mX12_picture) (bb := 329) (ci := 12) (As := [xs (i + 1)]) (st := [.int r1]) X dL_law_253 lk_L_26.1 lk_L_26.2 (by decide +kernel) (by decide +kernel) (by decide) rfl (by decide) rfl (Nat.le_of_ble_eq_true rfl) rfl (Nat.le_of_ble_eq_true rfl) hl.1 rfl hW1 hS1 (k1) (fun r2 g2 l2 H2 locs2 k2 hW2 hS2 => ?_)
  exact lv_icmp_eq (tgt := 1059) X.hx X.hb dL_law_256 (by decide) (fun _ => cont _ _ _ _ k2.2 hW2 hS2) (fun q => absurd k2.1 q)
set_option maxRecDepth 100000 in
theorem lw_k3 (X : LwC p s m meth c b L xs D cA ro) (hl : LwL s b i ls) (hi : i + 6 ≤ L) (hL : L ≤ 3072) (j : J σ n gi gl) (hn : n ≤ 600) (hW : Wd s.heap.size D cA κF gi gl H) (hS : va_S (Ab s.heap.size) s.heap H locs) (cont : ∀ g l' H1 locs1, J1 n g l' → Wd s.heap.size D cA κF g l' H1 → va_S (Ab s.heap.size) s.heap H1 locs1 → W p l e room_1 s m #[Value.ref b] below meth c H1 locs1 NN (sl NN) Z (F0 m 1059 ls [])) : W p l e room_1 s m #[Value.ref b] below meth c H locs NN (sl NN) Z (F0 m 261 ls []) := by
  refine lv_aload_n X.hx X.hb dL_law_261 rfl (lv_at hl 2 rfl) ?_
  refine lw_arg (k := 1) X hl hS (by decide) (by omega) hL dL_law_262 dL_law_263 dL_law_264 dL_law_265 dL_law_266 ?_
  refine lw_arg (k := 2) X hl hS (by decide) (by omega) hL dL_law_267 dL_law_268 dL_law_269 dL_law_270 dL_law_271 ?_
  refine lw_calI (N := mX11_more) (bb := 0) (ci := 11) (As := [xs (i + 1), xs (i + 2)]) (st := []) X dL_law_272 lk_L_27.1 lk_L_27.2 (by decide +kernel) (by decide +kernel) (by decide) rfl (by decide) rfl (Nat.le_of_ble_eq_true rfl) rfl (Nat.le_of_ble_eq_true rfl) hl.1 rfl hW hS (b_more j hn) (fun r1 g1 l1 H1 locs1 k1 hW1 hS1 => ?_)
  refine lv_aload_n X.hx X.hb dL_law_275 rfl (lv_at hl 3 rfl) ?_
  refine lw_arg (k := 1) X hl hS1 (by decide) (by omega) hL dL_law_276 dL_law_277 dL_law_278 dL_law_279 dL_law_280 ?_
  refine lw_arg (k := 2) X hl hS1 (by decide) (by omega) hL dL_law_281 dL_law_282 dL_law_283 dL_law_284 dL_law_285 ?_
  refine lw_calI (N := mX12_more) (bb := 329) (ci := 12) (As := [xs (i + 1), xs (i + 2)]) (st := [.int r1]) X dL_law_286 lk_L_31.1 lk_L_31.2 (by decide +kernel) (by decide +kernel) (by decide) rfl (by decide) rfl (Nat.le_of_ble_eq_true rfl) rfl (Nat.le_of_ble_eq_true rfl) hl.1 rfl hW1 hS1 (k1) (fun r2 g2 l2 H2 locs2 k2 hW2 hS2 => ?_)
  exact lv_icmp_eq (tgt := 1059) X.hx X.hb dL_law_289 (by decide) (fun _ => cont _ _ _ _ k2.2 hW2 hS2) (fun q => absurd k2.1 q)
set_option maxRecDepth 100000 in
theorem lw_k4 (X : LwC p s m meth c b L xs D cA ro) (hl : LwL s b i ls) (hi : i + 6 ≤ L) (hL : L ≤ 3072) (j : J σ n gi gl) (hn : n ≤ 600) (hW : Wd s.heap.size D cA κF gi gl H) (hS : va_S (Ab s.heap.size) s.heap H locs) (cont : ∀ g l' H1 locs1, J1 n g l' → Wd s.heap.size D cA κF g l' H1 → va_S (Ab s.heap.size) s.heap H1 locs1 → W p l e room_1 s m #[Value.ref b] below meth c H1 locs1 NN (sl NN) Z (F0 m 1059 ls [])) : W p l e room_1 s m #[Value.ref b] below meth c H locs NN (sl NN) Z (F0 m 294 ls []) := by
  refine lv_aload_n X.hx X.hb dL_law_294 rfl (lv_at hl 2 rfl) ?_
  refine lw_calI (N := mX11_fault) (bb := 0) (ci := 11) (As := []) (st := []) X dL_law_295 lk_L_32.1 lk_L_32.2 (by decide +kernel) (by decide +kernel) (by decide) rfl (by decide) rfl (Nat.le_of_ble_eq_true rfl) rfl (Nat.le_of_ble_eq_true rfl) hl.1 rfl hW hS (b_fault j hn) (fun r1 g1 l1 H1 locs1 k1 hW1 hS1 => ?_)
  refine lv_aload_n X.hx X.hb dL_law_298 rfl (lv_at hl 3 rfl) ?_
  refine lw_calI (N := mX12_fault) (bb := 329) (ci := 12) (As := []) (st := [.int r1]) X dL_law_299 lk_L_36.1 lk_L_36.2 (by decide +kernel) (by decide +kernel) (by decide) rfl (by decide) rfl (Nat.le_of_ble_eq_true rfl) rfl (Nat.le_of_ble_eq_true rfl) hl.1 rfl hW1 hS1 (k1) (fun r2 g2 l2 H2 locs2 k2 hW2 hS2 => ?_)
  exact lv_icmp_eq (tgt := 1059) X.hx X.hb dL_law_302 (by decide) (fun _ => cont _ _ _ _ k2.2 hW2 hS2) (fun q => absurd k2.1 q)
set_option maxRecDepth 100000 in
theorem lw_k5 (X : LwC p s m meth c b L xs D cA ro) (hl : LwL s b i ls) (hi : i + 6 ≤ L) (hL : L ≤ 3072) (j : J σ n gi gl) (hn : n ≤ 600) (hW : Wd s.heap.size D cA κF gi gl H) (hS : va_S (Ab s.heap.size) s.heap H locs) (cont : ∀ g l' H1 locs1, J1 n g l' → Wd s.heap.size D cA κF g l' H1 → va_S (Ab s.heap.size) s.heap H1 locs1 → W p l e room_1 s m #[Value.ref b] below meth c H1 locs1 NN (sl NN) Z (F0 m 1059 ls [])) : W p l e room_1 s m #[Value.ref b] below meth c H locs NN (sl NN) Z (F0 m 307 ls []) := by
  refine lv_aload_n X.hx X.hb dL_law_307 rfl (lv_at hl 2 rfl) ?_
  refine lw_arg (k := 1) X hl hS (by decide) (by omega) hL dL_law_308 dL_law_309 dL_law_310 dL_law_311 dL_law_312 ?_
  refine lw_calI (N := mX11_told) (bb := 0) (ci := 11) (As := [xs (i + 1)]) (st := []) X dL_law_313 lk_L_37.1 lk_L_37.2 (by decide +kernel) (by decide +kernel) (by decide) rfl (by decide) rfl (Nat.le_of_ble_eq_true rfl) rfl (Nat.le_of_ble_eq_true rfl) hl.1 rfl hW hS (b_told j hn) (fun r1 g1 l1 H1 locs1 k1 hW1 hS1 => ?_)
  refine lv_aload_n X.hx X.hb dL_law_316 rfl (lv_at hl 3 rfl) ?_
  refine lw_arg (k := 1) X hl hS1 (by decide) (by omega) hL dL_law_317 dL_law_318 dL_law_319 dL_law_320 dL_law_321 ?_
  refine lw_calI (N := mX12_told) (bb := 329) (ci := 12) (As := [xs (i + 1)]) (st := [.int r1]) X dL_law_322 lk_L_40.1 lk_L_40.2 (by decide +kernel) (by decide +kernel) (by decide) rfl (by decide) rfl (Nat.le_of_ble_eq_true rfl) rfl (Nat.le_of_ble_eq_true rfl) hl.1 rfl hW1 hS1 (k1) (fun r2 g2 l2 H2 locs2 k2 hW2 hS2 => ?_)
  exact lv_icmp_eq (tgt := 1059) X.hx X.hb dL_law_325 (by decide) (fun _ => cont _ _ _ _ k2.2 hW2 hS2) (fun q => absurd k2.1 q)
set_option maxRecDepth 100000 in
theorem lw_k6 (X : LwC p s m meth c b L xs D cA ro) (hl : LwL s b i ls) (hi : i + 6 ≤ L) (hL : L ≤ 3072) (j : J σ n gi gl) (hn : n ≤ 600) (hW : Wd s.heap.size D cA κF gi gl H) (hS : va_S (Ab s.heap.size) s.heap H locs) (cont : ∀ g l' H1 locs1, J1 n g l' → Wd s.heap.size D cA κF g l' H1 → va_S (Ab s.heap.size) s.heap H1 locs1 → W p l e room_1 s m #[Value.ref b] below meth c H1 locs1 NN (sl NN) Z (F0 m 1059 ls [])) : W p l e room_1 s m #[Value.ref b] below meth c H locs NN (sl NN) Z (F0 m 330 ls []) := by
  refine lv_aload_n X.hx X.hb dL_law_330 rfl (lv_at hl 2 rfl) ?_
  refine lw_arg (k := 1) X hl hS (by decide) (by omega) hL dL_law_331 dL_law_332 dL_law_333 dL_law_334 dL_law_335 ?_
  refine lw_arg (k := 2) X hl hS (by decide) (by omega) hL dL_law_336 dL_law_337 dL_law_338 dL_law_339 dL_law_340 ?_
  refine lw_arg (k := 3) X hl hS (by decide) (by omega) hL dL_law_341 dL_law_342 dL_law_343 dL_law_344 dL_law_345 ?_
  refine lw_calI (N := mX11_sign) (bb := 0) (ci := 11) (As := [xs (i + 1), xs (i + 2), xs (i + 3)]) (st := []) X dL_law_346 lk_L_41.1 lk_L_41.2 (by decide +kernel) (by decide +kernel) (by decide) rfl (by decide) rfl (Nat.le_of_ble_eq_true rfl) rfl (Nat.le_of_ble_eq_true rfl) hl.1 rfl hW hS (b_sign j hn) (fun r1 g1 l1 H1 locs1 k1 hW1 hS1 => ?_)
  refine lv_aload_n X.hx X.hb dL_law_349 rfl (lv_at hl 3 rfl) ?_
  refine lw_arg (k := 1) X hl hS1 (by decide) (by omega) hL dL_law_350 dL_law_351 dL_law_352 dL_law_353 dL_law_354 ?_
  refine lw_arg (k := 2) X hl hS1 (by decide) (by omega) hL dL_law_355 dL_law_356 dL_law_357 dL_law_358 dL_law_359 ?_
  refine lw_arg (k := 3) X hl hS1 (by decide) (by omega) hL dL_law_360 dL_law_361 dL_law_362 dL_law_363 dL_law_364 ?_
  refine lw_calI (N := mX12_sign) (bb := 329) (ci := 12) (As := [xs (i + 1), xs (i + 2), xs (i + 3)]) (st := [.int r1]) X dL_law_365 lk_L_45.1 lk_L_45.2 (by decide +kernel) (by decide +kernel) (by decide) rfl (by decide) rfl (Nat.le_of_ble_eq_true rfl) rfl (Nat.le_of_ble_eq_true rfl) hl.1 rfl hW1 hS1 (k1) (fun r2 g2 l2 H2 locs2 k2 hW2 hS2 => ?_)
  exact lv_icmp_eq (tgt := 1059) X.hx X.hb dL_law_368 (by decide) (fun _ => cont _ _ _ _ k2.2 hW2 hS2) (fun q => absurd k2.1 q)
set_option maxRecDepth 100000 in
theorem lw_k7 (X : LwC p s m meth c b L xs D cA ro) (hl : LwL s b i ls) (hi : i + 6 ≤ L) (hL : L ≤ 3072) (j : J σ n gi gl) (hn : n ≤ 600) (hW : Wd s.heap.size D cA κF gi gl H) (hS : va_S (Ab s.heap.size) s.heap H locs) (cont : ∀ g l' H1 locs1, J1 n g l' → Wd s.heap.size D cA κF g l' H1 → va_S (Ab s.heap.size) s.heap H1 locs1 → W p l e room_1 s m #[Value.ref b] below meth c H1 locs1 NN (sl NN) Z (F0 m 1059 ls [])) : W p l e room_1 s m #[Value.ref b] below meth c H locs NN (sl NN) Z (F0 m 373 ls []) := by
  refine lv_aload_n X.hx X.hb dL_law_373 rfl (lv_at hl 2 rfl) ?_
  refine lw_arg (k := 1) X hl hS (by decide) (by omega) hL dL_law_374 dL_law_375 dL_law_376 dL_law_377 dL_law_378 ?_
  refine lw_arg (k := 2) X hl hS (by decide) (by omega) hL dL_law_379 dL_law_380 dL_law_381 dL_law_382 dL_law_383 ?_
  refine lw_arg (k := 3) X hl hS (by decide) (by omega) hL dL_law_384 dL_law_385 dL_law_386 dL_law_387 dL_law_388 ?_
  refine lw_arg (k := 4) X hl hS (by decide) (by omega) hL dL_law_389 dL_law_390 dL_law_391 dL_law_392 dL_law_393 ?_
  refine lw_calI (N := mX11_lets) (bb := 0) (ci := 11) (As := [xs (i + 1), xs (i + 2), xs (i + 3), xs (i + 4)]) (st := []) X dL_law_394 lk_L_46.1 lk_L_46.2 (by decide +kernel) (by decide +kernel) (by decide) rfl (by decide) rfl (Nat.le_of_ble_eq_true rfl) rfl (Nat.le_of_ble_eq_true rfl) hl.1 rfl hW hS (b_lets j hn) (fun r1 g1 l1 H1 locs1 k1 hW1 hS1 => ?_)
  refine lv_aload_n X.hx X.hb dL_law_397 rfl (lv_at hl 3 rfl) ?_
  refine lw_arg (k := 1) X hl hS1 (by decide) (by omega) hL dL_law_398 dL_law_399 dL_law_400 dL_law_401 dL_law_402 ?_
  refine lw_arg (k := 2) X hl hS1 (by decide) (by omega) hL dL_law_403 dL_law_404 dL_law_405 dL_law_406 dL_law_407 ?_
  refine lw_arg (k := 3) X hl hS1 (by decide) (by omega) hL dL_law_408 dL_law_409 dL_law_410 dL_law_411 dL_law_412 ?_
  refine lw_arg (k := 4) X hl hS1 (by decide) (by omega) hL dL_law_413 dL_law_414 dL_law_415 dL_law_416 dL_law_417 ?_
  refine lw_calI (N := mX12_lets) (bb := 329) (ci := 12) (As := [xs (i + 1), xs (i + 2), xs (i + 3), xs (i + 4)]) (st := [.int r1]) X dL_law_418 lk_L_50.1 lk_L_50.2 (by decide +kernel) (by decide +kernel) (by decide) rfl (by decide) rfl (Nat.le_of_ble_eq_true rfl) rfl (Nat.le_of_ble_eq_true rfl) hl.1 rfl hW1 hS1 (k1) (fun r2 g2 l2 H2 locs2 k2 hW2 hS2 => ?_)
  exact lv_icmp_eq (tgt := 1059) X.hx X.hb dL_law_421 (by decide) (fun _ => cont _ _ _ _ k2.2 hW2 hS2) (fun q => absurd k2.1 q)
set_option maxRecDepth 100000 in
theorem lw_k8 (X : LwC p s m meth c b L xs D cA ro) (hl : LwL s b i ls) (hi : i + 6 ≤ L) (hL : L ≤ 3072) (j : J σ n gi gl) (hn : n ≤ 600) (hW : Wd s.heap.size D cA κF gi gl H) (hS : va_S (Ab s.heap.size) s.heap H locs) (cont : ∀ g l' H1 locs1, J1 n g l' → Wd s.heap.size D cA κF g l' H1 → va_S (Ab s.heap.size) s.heap H1 locs1 → W p l e room_1 s m #[Value.ref b] below meth c H1 locs1 NN (sl NN) Z (F0 m 1059 ls [])) : W p l e room_1 s m #[Value.ref b] below meth c H locs NN (sl NN) Z (F0 m 426 ls []) := by
  refine lv_aload_n X.hx X.hb dL_law_426 rfl (lv_at hl 2 rfl) ?_
  refine lw_arg (k := 1) X hl hS (by decide) (by omega) hL dL_law_427 dL_law_428 dL_law_429 dL_law_430 dL_law_431 ?_
  refine lw_arg (k := 2) X hl hS (by decide) (by omega) hL dL_law_432 dL_law_433 dL_law_434 dL_law_435 dL_law_436 ?_
  refine lw_arg (k := 3) X hl hS (by decide) (by omega) hL dL_law_437 dL_law_438 dL_law_439 dL_law_440 dL_law_441 ?_
  refine lw_arg (k := 4) X hl hS (by decide) (by omega) hL dL_law_442 dL_law_443 dL_law_444 dL_law_445 dL_law_446 ?_
  refine lw_calI (N := mX11_shadow) (bb := 0) (ci := 11) (As := [xs (i + 1), xs (i + 2), xs (i + 3), xs (i + 4)]) (st := []) X dL_law_447 lk_L_51.1 lk_L_51.2 (by decide +kernel) (by decide +kernel) (by decide) rfl (by decide) rfl (Nat.le_of_ble_eq_true rfl) rfl (Nat.le_of_ble_eq_true rfl) hl.1 rfl hW hS (b_shadow j hn) (fun r1 g1 l1 H1 locs1 k1 hW1 hS1 => ?_)
  refine lv_aload_n X.hx X.hb dL_law_450 rfl (lv_at hl 3 rfl) ?_
  refine lw_arg (k := 1) X hl hS1 (by decide) (by omega) hL dL_law_451 dL_law_452 dL_law_453 dL_law_454 dL_law_455 ?_
  refine lw_arg (k := 2) X hl hS1 (by decide) (by omega) hL dL_law_456 dL_law_457 dL_law_458 dL_law_459 dL_law_460 ?_
  refine lw_arg (k := 3) X hl hS1 (by decide) (by omega) hL dL_law_461 dL_law_462 dL_law_463 dL_law_464 dL_law_465 ?_
  refine lw_arg (k := 4) X hl hS1 (by decide) (by omega) hL dL_law_466 dL_law_467 dL_law_468 dL_law_469 dL_law_470 ?_
  refine lw_calI (N := mX12_shadow) (bb := 329) (ci := 12) (As := [xs (i + 1), xs (i + 2), xs (i + 3), xs (i + 4)]) (st := [.int r1]) X dL_law_471 lk_L_54.1 lk_L_54.2 (by decide +kernel) (by decide +kernel) (by decide) rfl (by decide) rfl (Nat.le_of_ble_eq_true rfl) rfl (Nat.le_of_ble_eq_true rfl) hl.1 rfl hW1 hS1 (k1) (fun r2 g2 l2 H2 locs2 k2 hW2 hS2 => ?_)
  exact lv_icmp_eq (tgt := 1059) X.hx X.hb dL_law_474 (by decide) (fun _ => cont _ _ _ _ k2.2 hW2 hS2) (fun q => absurd k2.1 q)
set_option maxRecDepth 100000 in
theorem lw_k9 (X : LwC p s m meth c b L xs D cA ro) (hl : LwL s b i ls) (hi : i + 6 ≤ L) (hL : L ≤ 3072) (j : J σ n gi gl) (hn : n ≤ 600) (hW : Wd s.heap.size D cA κF gi gl H) (hS : va_S (Ab s.heap.size) s.heap H locs) (cont : ∀ g l' H1 locs1, J1 n g l' → Wd s.heap.size D cA κF g l' H1 → va_S (Ab s.heap.size) s.heap H1 locs1 → W p l e room_1 s m #[Value.ref b] below meth c H1 locs1 NN (sl NN) Z (F0 m 1059 ls [])) : W p l e room_1 s m #[Value.ref b] below meth c H locs NN (sl NN) Z (F0 m 479 ls []) := by
  refine lv_aload_n X.hx X.hb dL_law_479 rfl (lv_at hl 2 rfl) ?_
  refine lw_arg (k := 1) X hl hS (by decide) (by omega) hL dL_law_480 dL_law_481 dL_law_482 dL_law_483 dL_law_484 ?_
  refine lw_calI (N := mX11_all) (bb := 0) (ci := 11) (As := [xs (i + 1)]) (st := []) X dL_law_485 lk_L_55.1 lk_L_55.2 (by decide +kernel) (by decide +kernel) (by decide) rfl (by decide) rfl (Nat.le_of_ble_eq_true rfl) rfl (Nat.le_of_ble_eq_true rfl) hl.1 rfl hW hS (b_all j hn) (fun r1 g1 l1 H1 locs1 k1 hW1 hS1 => ?_)
  refine lv_aload_n X.hx X.hb dL_law_488 rfl (lv_at hl 3 rfl) ?_
  refine lw_arg (k := 1) X hl hS1 (by decide) (by omega) hL dL_law_489 dL_law_490 dL_law_491 dL_law_492 dL_law_493 ?_
  refine lw_calI (N := mX12_all) (bb := 329) (ci := 12) (As := [xs (i + 1)]) (st := [.int r1]) X dL_law_494 lk_L_58.1 lk_L_58.2 (by decide +kernel) (by decide +kernel) (by decide) rfl (by decide) rfl (Nat.le_of_ble_eq_true rfl) rfl (Nat.le_of_ble_eq_true rfl) hl.1 rfl hW1 hS1 (k1) (fun r2 g2 l2 H2 locs2 k2 hW2 hS2 => ?_)
  exact lv_icmp_eq (tgt := 1059) X.hx X.hb dL_law_497 (by decide) (fun _ => cont _ _ _ _ k2.2 hW2 hS2) (fun q => absurd k2.1 q)
set_option maxRecDepth 100000 in
theorem lw_k10 (X : LwC p s m meth c b L xs D cA ro) (hl : LwL s b i ls) (hi : i + 6 ≤ L) (hL : L ≤ 3072) (j : J σ n gi gl) (hn : n ≤ 600) (hW : Wd s.heap.size D cA κF gi gl H) (hS : va_S (Ab s.heap.size) s.heap H locs) (cont : ∀ g l' H1 locs1, J1 n g l' → Wd s.heap.size D cA κF g l' H1 → va_S (Ab s.heap.size) s.heap H1 locs1 → W p l e room_1 s m #[Value.ref b] below meth c H1 locs1 NN (sl NN) Z (F0 m 1059 ls [])) : W p l e room_1 s m #[Value.ref b] below meth c H locs NN (sl NN) Z (F0 m 502 ls []) := by
  refine lv_aload_n X.hx X.hb dL_law_502 rfl (lv_at hl 2 rfl) ?_
  refine lw_arg (k := 1) X hl hS (by decide) (by omega) hL dL_law_503 dL_law_504 dL_law_505 dL_law_506 dL_law_507 ?_
  refine lw_arg (k := 2) X hl hS (by decide) (by omega) hL dL_law_508 dL_law_509 dL_law_510 dL_law_511 dL_law_512 ?_
  refine lw_calI (N := mX11_days) (bb := 0) (ci := 11) (As := [xs (i + 1), xs (i + 2)]) (st := []) X dL_law_513 lk_L_59.1 lk_L_59.2 (by decide +kernel) (by decide +kernel) (by decide) rfl (by decide) rfl (Nat.le_of_ble_eq_true rfl) rfl (Nat.le_of_ble_eq_true rfl) hl.1 rfl hW hS (b_days j hn) (fun r1 g1 l1 H1 locs1 k1 hW1 hS1 => ?_)
  refine lv_aload_n X.hx X.hb dL_law_516 rfl (lv_at hl 3 rfl) ?_
  refine lw_arg (k := 1) X hl hS1 (by decide) (by omega) hL dL_law_517 dL_law_518 dL_law_519 dL_law_520 dL_law_521 ?_
  refine lw_arg (k := 2) X hl hS1 (by decide) (by omega) hL dL_law_522 dL_law_523 dL_law_524 dL_law_525 dL_law_526 ?_
  refine lw_calI (N := mX12_days) (bb := 329) (ci := 12) (As := [xs (i + 1), xs (i + 2)]) (st := [.int r1]) X dL_law_527 lk_L_62.1 lk_L_62.2 (by decide +kernel) (by decide +kernel) (by decide) rfl (by decide) rfl (Nat.le_of_ble_eq_true rfl) rfl (Nat.le_of_ble_eq_true rfl) hl.1 rfl hW1 hS1 (k1) (fun r2 g2 l2 H2 locs2 k2 hW2 hS2 => ?_)
  exact lv_icmp_eq (tgt := 1059) X.hx X.hb dL_law_530 (by decide) (fun _ => cont _ _ _ _ k2.2 hW2 hS2) (fun q => absurd k2.1 q)
set_option maxRecDepth 100000 in
theorem lw_k11 (X : LwC p s m meth c b L xs D cA ro) (hl : LwL s b i ls) (hi : i + 6 ≤ L) (hL : L ≤ 3072) (j : J σ n gi gl) (hn : n ≤ 600) (hW : Wd s.heap.size D cA κF gi gl H) (hS : va_S (Ab s.heap.size) s.heap H locs) (cont : ∀ g l' H1 locs1, J1 n g l' → Wd s.heap.size D cA κF g l' H1 → va_S (Ab s.heap.size) s.heap H1 locs1 → W p l e room_1 s m #[Value.ref b] below meth c H1 locs1 NN (sl NN) Z (F0 m 1059 ls [])) : W p l e room_1 s m #[Value.ref b] below meth c H locs NN (sl NN) Z (F0 m 535 ls []) := by
  refine lv_aload_n X.hx X.hb dL_law_535 rfl (lv_at hl 2 rfl) ?_
  refine lw_arg (k := 1) X hl hS (by decide) (by omega) hL dL_law_536 dL_law_537 dL_law_538 dL_law_539 dL_law_540 ?_
  refine lw_arg (k := 2) X hl hS (by decide) (by omega) hL dL_law_541 dL_law_542 dL_law_543 dL_law_544 dL_law_545 ?_
  refine lw_arg (k := 3) X hl hS (by decide) (by omega) hL dL_law_546 dL_law_547 dL_law_548 dL_law_549 dL_law_550 ?_
  refine lw_calI (N := mX11_runs) (bb := 0) (ci := 11) (As := [xs (i + 1), xs (i + 2), xs (i + 3)]) (st := []) X dL_law_551 lk_L_63.1 lk_L_63.2 (by decide +kernel) (by decide +kernel) (by decide) rfl (by decide) rfl (Nat.le_of_ble_eq_true rfl) rfl (Nat.le_of_ble_eq_true rfl) hl.1 rfl hW hS (b_runs j hn) (fun r1 g1 l1 H1 locs1 k1 hW1 hS1 => ?_)
  refine lv_aload_n X.hx X.hb dL_law_554 rfl (lv_at hl 3 rfl) ?_
  refine lw_arg (k := 1) X hl hS1 (by decide) (by omega) hL dL_law_555 dL_law_556 dL_law_557 dL_law_558 dL_law_559 ?_
  refine lw_arg (k := 2) X hl hS1 (by decide) (by omega) hL dL_law_560 dL_law_561 dL_law_562 dL_law_563 dL_law_564 ?_
  refine lw_arg (k := 3) X hl hS1 (by decide) (by omega) hL dL_law_565 dL_law_566 dL_law_567 dL_law_568 dL_law_569 ?_
  refine lw_calI (N := mX12_runs) (bb := 329) (ci := 12) (As := [xs (i + 1), xs (i + 2), xs (i + 3)]) (st := [.int r1]) X dL_law_570 lk_L_66.1 lk_L_66.2 (by decide +kernel) (by decide +kernel) (by decide) rfl (by decide) rfl (Nat.le_of_ble_eq_true rfl) rfl (Nat.le_of_ble_eq_true rfl) hl.1 rfl hW1 hS1 (k1) (fun r2 g2 l2 H2 locs2 k2 hW2 hS2 => ?_)
  exact lv_icmp_eq (tgt := 1059) X.hx X.hb dL_law_573 (by decide) (fun _ => cont _ _ _ _ k2.2 hW2 hS2) (fun q => absurd k2.1 q)
set_option maxRecDepth 100000 in
theorem lw_k12 (X : LwC p s m meth c b L xs D cA ro) (hl : LwL s b i ls) (hi : i + 6 ≤ L) (hL : L ≤ 3072) (j : J σ n gi gl) (hn : n ≤ 600) (hW : Wd s.heap.size D cA κF gi gl H) (hS : va_S (Ab s.heap.size) s.heap H locs) (cont : ∀ g l' H1 locs1, J1 n g l' → Wd s.heap.size D cA κF g l' H1 → va_S (Ab s.heap.size) s.heap H1 locs1 → W p l e room_1 s m #[Value.ref b] below meth c H1 locs1 NN (sl NN) Z (F0 m 1059 ls [])) : W p l e room_1 s m #[Value.ref b] below meth c H locs NN (sl NN) Z (F0 m 578 ls []) := by
  refine lv_aload_n X.hx X.hb dL_law_578 rfl (lv_at hl 2 rfl) ?_
  refine lw_arg (k := 1) X hl hS (by decide) (by omega) hL dL_law_579 dL_law_580 dL_law_581 dL_law_582 dL_law_583 ?_
  refine lw_arg (k := 2) X hl hS (by decide) (by omega) hL dL_law_584 dL_law_585 dL_law_586 dL_law_587 dL_law_588 ?_
  refine lw_arg (k := 3) X hl hS (by decide) (by omega) hL dL_law_589 dL_law_590 dL_law_591 dL_law_592 dL_law_593 ?_
  refine lw_calI (N := mX11_judge) (bb := 0) (ci := 11) (As := [xs (i + 1), xs (i + 2), xs (i + 3)]) (st := []) X dL_law_594 lk_L_67.1 lk_L_67.2 (by decide +kernel) (by decide +kernel) (by decide) rfl (by decide) rfl (Nat.le_of_ble_eq_true rfl) rfl (Nat.le_of_ble_eq_true rfl) hl.1 rfl hW hS (b_judge j hn) (fun r1 g1 l1 H1 locs1 k1 hW1 hS1 => ?_)
  refine lv_aload_n X.hx X.hb dL_law_597 rfl (lv_at hl 3 rfl) ?_
  refine lw_arg (k := 1) X hl hS1 (by decide) (by omega) hL dL_law_598 dL_law_599 dL_law_600 dL_law_601 dL_law_602 ?_
  refine lw_arg (k := 2) X hl hS1 (by decide) (by omega) hL dL_law_603 dL_law_604 dL_law_605 dL_law_606 dL_law_607 ?_
  refine lw_arg (k := 3) X hl hS1 (by decide) (by omega) hL dL_law_608 dL_law_609 dL_law_610 dL_law_611 dL_law_612 ?_
  refine lw_calI (N := mX12_judge) (bb := 329) (ci := 12) (As := [xs (i + 1), xs (i + 2), xs (i + 3)]) (st := [.int r1]) X dL_law_613 lk_L_70.1 lk_L_70.2 (by decide +kernel) (by decide +kernel) (by decide) rfl (by decide) rfl (Nat.le_of_ble_eq_true rfl) rfl (Nat.le_of_ble_eq_true rfl) hl.1 rfl hW1 hS1 (k1) (fun r2 g2 l2 H2 locs2 k2 hW2 hS2 => ?_)
  exact lv_icmp_eq (tgt := 1059) X.hx X.hb dL_law_616 (by decide) (fun _ => cont _ _ _ _ k2.2 hW2 hS2) (fun q => absurd k2.1 q)
set_option maxRecDepth 100000 in
theorem lw_k13 (X : LwC p s m meth c b L xs D cA ro) (hl : LwL s b i ls) (hi : i + 6 ≤ L) (hL : L ≤ 3072) (j : J σ n gi gl) (hn : n ≤ 600) (hW : Wd s.heap.size D cA κF gi gl H) (hS : va_S (Ab s.heap.size) s.heap H locs) (cont : ∀ g l' H1 locs1, J1 n g l' → Wd s.heap.size D cA κF g l' H1 → va_S (Ab s.heap.size) s.heap H1 locs1 → W p l e room_1 s m #[Value.ref b] below meth c H1 locs1 NN (sl NN) Z (F0 m 1059 ls [])) : W p l e room_1 s m #[Value.ref b] below meth c H locs NN (sl NN) Z (F0 m 621 ls []) := by
  refine lv_aload_n X.hx X.hb dL_law_621 rfl (lv_at hl 2 rfl) ?_
  refine lw_arg (k := 1) X hl hS (by decide) (by omega) hL dL_law_622 dL_law_623 dL_law_624 dL_law_625 dL_law_626 ?_
  refine lw_calI (N := mX11_quarrel) (bb := 0) (ci := 11) (As := [xs (i + 1)]) (st := []) X dL_law_627 lk_L_71.1 lk_L_71.2 (by decide +kernel) (by decide +kernel) (by decide) rfl (by decide) rfl (Nat.le_of_ble_eq_true rfl) rfl (Nat.le_of_ble_eq_true rfl) hl.1 rfl hW hS (b_quarrel j hn) (fun r1 g1 l1 H1 locs1 k1 hW1 hS1 => ?_)
  refine lv_aload_n X.hx X.hb dL_law_630 rfl (lv_at hl 3 rfl) ?_
  refine lw_arg (k := 1) X hl hS1 (by decide) (by omega) hL dL_law_631 dL_law_632 dL_law_633 dL_law_634 dL_law_635 ?_
  refine lw_calI (N := mX12_quarrel) (bb := 329) (ci := 12) (As := [xs (i + 1)]) (st := [.int r1]) X dL_law_636 lk_L_74.1 lk_L_74.2 (by decide +kernel) (by decide +kernel) (by decide) rfl (by decide) rfl (Nat.le_of_ble_eq_true rfl) rfl (Nat.le_of_ble_eq_true rfl) hl.1 rfl hW1 hS1 (k1) (fun r2 g2 l2 H2 locs2 k2 hW2 hS2 => ?_)
  exact lv_icmp_eq (tgt := 1059) X.hx X.hb dL_law_639 (by decide) (fun _ => cont _ _ _ _ k2.2 hW2 hS2) (fun q => absurd k2.1 q)
set_option maxRecDepth 100000 in
theorem lw_k14 (X : LwC p s m meth c b L xs D cA ro) (hl : LwL s b i ls) (hi : i + 6 ≤ L) (hL : L ≤ 3072) (j : J σ n gi gl) (hn : n ≤ 600) (hW : Wd s.heap.size D cA κF gi gl H) (hS : va_S (Ab s.heap.size) s.heap H locs) (cont : ∀ g l' H1 locs1, J1 n g l' → Wd s.heap.size D cA κF g l' H1 → va_S (Ab s.heap.size) s.heap H1 locs1 → W p l e room_1 s m #[Value.ref b] below meth c H1 locs1 NN (sl NN) Z (F0 m 1059 ls [])) : W p l e room_1 s m #[Value.ref b] below meth c H locs NN (sl NN) Z (F0 m 644 ls []) := by
  refine lv_aload_n X.hx X.hb dL_law_644 rfl (lv_at hl 2 rfl) ?_
  refine lw_arg (k := 1) X hl hS (by decide) (by omega) hL dL_law_645 dL_law_646 dL_law_647 dL_law_648 dL_law_649 ?_
  refine lw_arg (k := 2) X hl hS (by decide) (by omega) hL dL_law_650 dL_law_651 dL_law_652 dL_law_653 dL_law_654 ?_
  refine lw_calI (N := mX11_doubt) (bb := 0) (ci := 11) (As := [xs (i + 1), xs (i + 2)]) (st := []) X dL_law_655 lk_L_75.1 lk_L_75.2 (by decide +kernel) (by decide +kernel) (by decide) rfl (by decide) rfl (Nat.le_of_ble_eq_true rfl) rfl (Nat.le_of_ble_eq_true rfl) hl.1 rfl hW hS (b_doubt j hn) (fun r1 g1 l1 H1 locs1 k1 hW1 hS1 => ?_)
  refine lv_aload_n X.hx X.hb dL_law_658 rfl (lv_at hl 3 rfl) ?_
  refine lw_arg (k := 1) X hl hS1 (by decide) (by omega) hL dL_law_659 dL_law_660 dL_law_661 dL_law_662 dL_law_663 ?_
  refine lw_arg (k := 2) X hl hS1 (by decide) (by omega) hL dL_law_664 dL_law_665 dL_law_666 dL_law_667 dL_law_668 ?_
  refine lw_calI (N := mX12_doubt) (bb := 329) (ci := 12) (As := [xs (i + 1), xs (i + 2)]) (st := [.int r1]) X dL_law_669 lk_L_78.1 lk_L_78.2 (by decide +kernel) (by decide +kernel) (by decide) rfl (by decide) rfl (Nat.le_of_ble_eq_true rfl) rfl (Nat.le_of_ble_eq_true rfl) hl.1 rfl hW1 hS1 (k1) (fun r2 g2 l2 H2 locs2 k2 hW2 hS2 => ?_)
  exact lv_icmp_eq (tgt := 1059) X.hx X.hb dL_law_672 (by decide) (fun _ => cont _ _ _ _ k2.2 hW2 hS2) (fun q => absurd k2.1 q)
set_option maxRecDepth 100000 in
theorem lw_k15 (X : LwC p s m meth c b L xs D cA ro) (hl : LwL s b i ls) (hi : i + 6 ≤ L) (hL : L ≤ 3072) (j : J σ n gi gl) (hn : n ≤ 600) (hW : Wd s.heap.size D cA κF gi gl H) (hS : va_S (Ab s.heap.size) s.heap H locs) (cont : ∀ g l' H1 locs1, J1 n g l' → Wd s.heap.size D cA κF g l' H1 → va_S (Ab s.heap.size) s.heap H1 locs1 → W p l e room_1 s m #[Value.ref b] below meth c H1 locs1 NN (sl NN) Z (F0 m 1059 ls [])) : W p l e room_1 s m #[Value.ref b] below meth c H locs NN (sl NN) Z (F0 m 677 ls []) := by
  refine lv_aload_n X.hx X.hb dL_law_677 rfl (lv_at hl 2 rfl) ?_
  refine lw_arg (k := 1) X hl hS (by decide) (by omega) hL dL_law_678 dL_law_679 dL_law_680 dL_law_681 dL_law_682 ?_
  refine lw_arg (k := 2) X hl hS (by decide) (by omega) hL dL_law_683 dL_law_684 dL_law_685 dL_law_686 dL_law_687 ?_
  refine lw_bool (t1 := 695) (t2 := 696) X dL_law_688 (by decide) dL_law_691 dL_law_692 (by decide) dL_law_695 rfl ?_
  refine lw_arg (k := 3) X hl hS (by decide) (by omega) hL dL_law_696 dL_law_697 dL_law_698 dL_law_699 dL_law_700 ?_
  refine lw_calI (N := mX11_stood) (bb := 0) (ci := 11) (As := [xs (i + 1), b2i (decide (xs (i + 2) ≠ 0)), xs (i + 3)]) (st := []) X dL_law_701 lk_L_79.1 lk_L_79.2 (by decide +kernel) (by decide +kernel) (by decide) rfl (by decide) rfl (Nat.le_of_ble_eq_true rfl) rfl (Nat.le_of_ble_eq_true rfl) hl.1 rfl hW hS (b_stood (over := decide (xs (i + 2) ≠ 0)) j hn) (fun r1 g1 l1 H1 locs1 k1 hW1 hS1 => ?_)
  refine lv_aload_n X.hx X.hb dL_law_704 rfl (lv_at hl 3 rfl) ?_
  refine lw_arg (k := 1) X hl hS1 (by decide) (by omega) hL dL_law_705 dL_law_706 dL_law_707 dL_law_708 dL_law_709 ?_
  refine lw_arg (k := 2) X hl hS1 (by decide) (by omega) hL dL_law_710 dL_law_711 dL_law_712 dL_law_713 dL_law_714 ?_
  refine lw_bool (t1 := 722) (t2 := 723) X dL_law_715 (by decide) dL_law_718 dL_law_719 (by decide) dL_law_722 rfl ?_
  refine lw_arg (k := 3) X hl hS1 (by decide) (by omega) hL dL_law_723 dL_law_724 dL_law_725 dL_law_726 dL_law_727 ?_
  refine lw_calI (N := mX12_stood) (bb := 329) (ci := 12) (As := [xs (i + 1), b2i (decide (xs (i + 2) ≠ 0)), xs (i + 3)]) (st := [.int r1]) X dL_law_728 lk_L_83.1 lk_L_83.2 (by decide +kernel) (by decide +kernel) (by decide) rfl (by decide) rfl (Nat.le_of_ble_eq_true rfl) rfl (Nat.le_of_ble_eq_true rfl) hl.1 rfl hW1 hS1 (k1) (fun r2 g2 l2 H2 locs2 k2 hW2 hS2 => ?_)
  exact lv_icmp_eq (tgt := 1059) X.hx X.hb dL_law_731 (by decide) (fun _ => cont _ _ _ _ k2.2 hW2 hS2) (fun q => absurd k2.1 q)
set_option maxRecDepth 100000 in
theorem lw_k16 (X : LwC p s m meth c b L xs D cA ro) (hl : LwL s b i ls) (hi : i + 6 ≤ L) (hL : L ≤ 3072) (j : J σ n gi gl) (hn : n ≤ 600) (hW : Wd s.heap.size D cA κF gi gl H) (hS : va_S (Ab s.heap.size) s.heap H locs) (cont : ∀ g l' H1 locs1, J1 n g l' → Wd s.heap.size D cA κF g l' H1 → va_S (Ab s.heap.size) s.heap H1 locs1 → W p l e room_1 s m #[Value.ref b] below meth c H1 locs1 NN (sl NN) Z (F0 m 1059 ls [])) : W p l e room_1 s m #[Value.ref b] below meth c H locs NN (sl NN) Z (F0 m 736 ls []) := by
  refine lv_aload_n X.hx X.hb dL_law_736 rfl (lv_at hl 2 rfl) ?_
  refine lw_arg (k := 1) X hl hS (by decide) (by omega) hL dL_law_737 dL_law_738 dL_law_739 dL_law_740 dL_law_741 ?_
  refine lw_arg (k := 2) X hl hS (by decide) (by omega) hL dL_law_742 dL_law_743 dL_law_744 dL_law_745 dL_law_746 ?_
  refine lw_calI (N := mX11_late) (bb := 0) (ci := 11) (As := [xs (i + 1), xs (i + 2)]) (st := []) X dL_law_747 lk_L_84.1 lk_L_84.2 (by decide +kernel) (by decide +kernel) (by decide) rfl (by decide) rfl (Nat.le_of_ble_eq_true rfl) rfl (Nat.le_of_ble_eq_true rfl) hl.1 rfl hW hS (b_late j hn) (fun r1 g1 l1 H1 locs1 k1 hW1 hS1 => ?_)
  refine lv_aload_n X.hx X.hb dL_law_750 rfl (lv_at hl 3 rfl) ?_
  refine lw_arg (k := 1) X hl hS1 (by decide) (by omega) hL dL_law_751 dL_law_752 dL_law_753 dL_law_754 dL_law_755 ?_
  refine lw_arg (k := 2) X hl hS1 (by decide) (by omega) hL dL_law_756 dL_law_757 dL_law_758 dL_law_759 dL_law_760 ?_
  refine lw_calI (N := mX12_late) (bb := 329) (ci := 12) (As := [xs (i + 1), xs (i + 2)]) (st := [.int r1]) X dL_law_761 lk_L_87.1 lk_L_87.2 (by decide +kernel) (by decide +kernel) (by decide) rfl (by decide) rfl (Nat.le_of_ble_eq_true rfl) rfl (Nat.le_of_ble_eq_true rfl) hl.1 rfl hW1 hS1 (k1) (fun r2 g2 l2 H2 locs2 k2 hW2 hS2 => ?_)
  exact lv_icmp_eq (tgt := 1059) X.hx X.hb dL_law_764 (by decide) (fun _ => cont _ _ _ _ k2.2 hW2 hS2) (fun q => absurd k2.1 q)
set_option maxRecDepth 100000 in
theorem lw_k17 (X : LwC p s m meth c b L xs D cA ro) (hl : LwL s b i ls) (hi : i + 6 ≤ L) (hL : L ≤ 3072) (j : J σ n gi gl) (hn : n ≤ 600) (hW : Wd s.heap.size D cA κF gi gl H) (hS : va_S (Ab s.heap.size) s.heap H locs) (cont : ∀ g l' H1 locs1, J1 n g l' → Wd s.heap.size D cA κF g l' H1 → va_S (Ab s.heap.size) s.heap H1 locs1 → W p l e room_1 s m #[Value.ref b] below meth c H1 locs1 NN (sl NN) Z (F0 m 1059 ls [])) : W p l e room_1 s m #[Value.ref b] below meth c H locs NN (sl NN) Z (F0 m 769 ls []) := by
  refine lv_aload_n X.hx X.hb dL_law_769 rfl (lv_at hl 2 rfl) ?_
  refine lw_arg (k := 1) X hl hS (by decide) (by omega) hL dL_law_770 dL_law_771 dL_law_772 dL_law_773 dL_law_774 ?_
  refine lw_arg (k := 2) X hl hS (by decide) (by omega) hL dL_law_775 dL_law_776 dL_law_777 dL_law_778 dL_law_779 ?_
  refine lw_arg (k := 3) X hl hS (by decide) (by omega) hL dL_law_780 dL_law_781 dL_law_782 dL_law_783 dL_law_784 ?_
  refine lw_arg (k := 4) X hl hS (by decide) (by omega) hL dL_law_785 dL_law_786 dL_law_787 dL_law_788 dL_law_789 ?_
  refine lw_arg (k := 5) X hl hS (by decide) (by omega) hL dL_law_790 dL_law_791 dL_law_792 dL_law_793 dL_law_794 ?_
  refine lw_calL (N := mX11_couples) (bb := 0) (ci := 11) (As := [xs (i + 1), xs (i + 2), xs (i + 3), xs (i + 4), xs (i + 5)]) (st := []) X dL_law_795 lk_L_88.1 lk_L_88.2 (by decide +kernel) (by decide +kernel) (by decide) rfl (by decide) rfl (Nat.le_of_ble_eq_true rfl) rfl (Nat.le_of_ble_eq_true rfl) hl.1 rfl hW hS (b_couples j hn) (fun r1 g1 l1 H1 locs1 k1 hW1 hS1 => ?_)
  refine lv_aload_n X.hx X.hb dL_law_798 rfl (lv_at hl 3 rfl) ?_
  refine lw_arg (k := 1) X hl hS1 (by decide) (by omega) hL dL_law_799 dL_law_800 dL_law_801 dL_law_802 dL_law_803 ?_
  refine lw_arg (k := 2) X hl hS1 (by decide) (by omega) hL dL_law_804 dL_law_805 dL_law_806 dL_law_807 dL_law_808 ?_
  refine lw_arg (k := 3) X hl hS1 (by decide) (by omega) hL dL_law_809 dL_law_810 dL_law_811 dL_law_812 dL_law_813 ?_
  refine lw_arg (k := 4) X hl hS1 (by decide) (by omega) hL dL_law_814 dL_law_815 dL_law_816 dL_law_817 dL_law_818 ?_
  refine lw_arg (k := 5) X hl hS1 (by decide) (by omega) hL dL_law_819 dL_law_820 dL_law_821 dL_law_822 dL_law_823 ?_
  refine lw_calL (N := mX12_couples) (bb := 329) (ci := 12) (As := [xs (i + 1), xs (i + 2), xs (i + 3), xs (i + 4), xs (i + 5)]) (st := [.long r1]) X dL_law_824 lk_L_92.1 lk_L_92.2 (by decide +kernel) (by decide +kernel) (by decide) rfl (by decide) rfl (Nat.le_of_ble_eq_true rfl) rfl (Nat.le_of_ble_eq_true rfl) hl.1 rfl hW1 hS1 (k1) (fun r2 g2 l2 H2 locs2 k2 hW2 hS2 => ?_)
  refine W.lcmp X.hx X.hb dL_law_827 ?_
  exact lv_if_eq (tgt := 1059) X.hx X.hb dL_law_828 (by decide) (fun _ => cont _ _ _ _ k2.2 hW2 hS2) (fun q => absurd (lc_eq.2 k2.1) q)
set_option maxRecDepth 100000 in
theorem lw_k18 (X : LwC p s m meth c b L xs D cA ro) (hl : LwL s b i ls) (hi : i + 6 ≤ L) (hL : L ≤ 3072) (j : J σ n gi gl) (hn : n ≤ 600) (hW : Wd s.heap.size D cA κF gi gl H) (hS : va_S (Ab s.heap.size) s.heap H locs) (cont : ∀ g l' H1 locs1, J1 n g l' → Wd s.heap.size D cA κF g l' H1 → va_S (Ab s.heap.size) s.heap H1 locs1 → W p l e room_1 s m #[Value.ref b] below meth c H1 locs1 NN (sl NN) Z (F0 m 1059 ls [])) : W p l e room_1 s m #[Value.ref b] below meth c H locs NN (sl NN) Z (F0 m 833 ls []) := by
  refine lv_aload_n X.hx X.hb dL_law_833 rfl (lv_at hl 2 rfl) ?_
  refine lw_arg (k := 1) X hl hS (by decide) (by omega) hL dL_law_834 dL_law_835 dL_law_836 dL_law_837 dL_law_838 ?_
  refine lw_arg (k := 2) X hl hS (by decide) (by omega) hL dL_law_839 dL_law_840 dL_law_841 dL_law_842 dL_law_843 ?_
  refine lw_calI (N := mX11_weight) (bb := 0) (ci := 11) (As := [xs (i + 1), xs (i + 2)]) (st := []) X dL_law_844 lk_L_93.1 lk_L_93.2 (by decide +kernel) (by decide +kernel) (by decide) rfl (by decide) rfl (Nat.le_of_ble_eq_true rfl) rfl (Nat.le_of_ble_eq_true rfl) hl.1 rfl hW hS (b_weight j hn) (fun r1 g1 l1 H1 locs1 k1 hW1 hS1 => ?_)
  refine lv_aload_n X.hx X.hb dL_law_847 rfl (lv_at hl 3 rfl) ?_
  refine lw_arg (k := 1) X hl hS1 (by decide) (by omega) hL dL_law_848 dL_law_849 dL_law_850 dL_law_851 dL_law_852 ?_
  refine lw_arg (k := 2) X hl hS1 (by decide) (by omega) hL dL_law_853 dL_law_854 dL_law_855 dL_law_856 dL_law_857 ?_
  refine lw_calI (N := mX12_weight) (bb := 329) (ci := 12) (As := [xs (i + 1), xs (i + 2)]) (st := [.int r1]) X dL_law_858 lk_L_97.1 lk_L_97.2 (by decide +kernel) (by decide +kernel) (by decide) rfl (by decide) rfl (Nat.le_of_ble_eq_true rfl) rfl (Nat.le_of_ble_eq_true rfl) hl.1 rfl hW1 hS1 (k1) (fun r2 g2 l2 H2 locs2 k2 hW2 hS2 => ?_)
  exact lv_icmp_eq (tgt := 1059) X.hx X.hb dL_law_861 (by decide) (fun _ => cont _ _ _ _ k2.2 hW2 hS2) (fun q => absurd k2.1 q)
set_option maxRecDepth 100000 in
theorem lw_k19 (X : LwC p s m meth c b L xs D cA ro) (hl : LwL s b i ls) (hi : i + 6 ≤ L) (hL : L ≤ 3072) (j : J σ n gi gl) (hn : n ≤ 600) (hW : Wd s.heap.size D cA κF gi gl H) (hS : va_S (Ab s.heap.size) s.heap H locs) (cont : ∀ g l' H1 locs1, J1 n g l' → Wd s.heap.size D cA κF g l' H1 → va_S (Ab s.heap.size) s.heap H1 locs1 → W p l e room_1 s m #[Value.ref b] below meth c H1 locs1 NN (sl NN) Z (F0 m 1059 ls [])) : W p l e room_1 s m #[Value.ref b] below meth c H locs NN (sl NN) Z (F0 m 866 ls []) := by
  refine lv_aload_n X.hx X.hb dL_law_866 rfl (lv_at hl 2 rfl) ?_
  refine lw_arg (k := 1) X hl hS (by decide) (by omega) hL dL_law_867 dL_law_868 dL_law_869 dL_law_870 dL_law_871 ?_
  refine lw_arg (k := 2) X hl hS (by decide) (by omega) hL dL_law_872 dL_law_873 dL_law_874 dL_law_875 dL_law_876 ?_
  refine lw_calL (N := mX11_likely) (bb := 0) (ci := 11) (As := [xs (i + 1), xs (i + 2)]) (st := []) X dL_law_877 lk_L_98.1 lk_L_98.2 (by decide +kernel) (by decide +kernel) (by decide) rfl (by decide) rfl (Nat.le_of_ble_eq_true rfl) rfl (Nat.le_of_ble_eq_true rfl) hl.1 rfl hW hS (b_likely j hn) (fun r1 g1 l1 H1 locs1 k1 hW1 hS1 => ?_)
  refine lv_aload_n X.hx X.hb dL_law_880 rfl (lv_at hl 3 rfl) ?_
  refine lw_arg (k := 1) X hl hS1 (by decide) (by omega) hL dL_law_881 dL_law_882 dL_law_883 dL_law_884 dL_law_885 ?_
  refine lw_arg (k := 2) X hl hS1 (by decide) (by omega) hL dL_law_886 dL_law_887 dL_law_888 dL_law_889 dL_law_890 ?_
  refine lw_calL (N := mX12_likely) (bb := 329) (ci := 12) (As := [xs (i + 1), xs (i + 2)]) (st := [.long r1]) X dL_law_891 lk_L_102.1 lk_L_102.2 (by decide +kernel) (by decide +kernel) (by decide) rfl (by decide) rfl (Nat.le_of_ble_eq_true rfl) rfl (Nat.le_of_ble_eq_true rfl) hl.1 rfl hW1 hS1 (k1) (fun r2 g2 l2 H2 locs2 k2 hW2 hS2 => ?_)
  refine W.lcmp X.hx X.hb dL_law_894 ?_
  exact lv_if_eq (tgt := 1059) X.hx X.hb dL_law_895 (by decide) (fun _ => cont _ _ _ _ k2.2 hW2 hS2) (fun q => absurd (lc_eq.2 k2.1) q)
set_option maxRecDepth 100000 in
theorem lw_k20 (X : LwC p s m meth c b L xs D cA ro) (hl : LwL s b i ls) (hi : i + 6 ≤ L) (hL : L ≤ 3072) (j : J σ n gi gl) (hn : n ≤ 600) (hW : Wd s.heap.size D cA κF gi gl H) (hS : va_S (Ab s.heap.size) s.heap H locs) (cont : ∀ g l' H1 locs1, J1 n g l' → Wd s.heap.size D cA κF g l' H1 → va_S (Ab s.heap.size) s.heap H1 locs1 → W p l e room_1 s m #[Value.ref b] below meth c H1 locs1 NN (sl NN) Z (F0 m 1059 ls [])) : W p l e room_1 s m #[Value.ref b] below meth c H locs NN (sl NN) Z (F0 m 900 ls []) := by
  refine lv_aload_n X.hx X.hb dL_law_900 rfl (lv_at hl 2 rfl) ?_
  refine lw_arg (k := 1) X hl hS (by decide) (by omega) hL dL_law_901 dL_law_902 dL_law_903 dL_law_904 dL_law_905 ?_
  refine lw_arg (k := 2) X hl hS (by decide) (by omega) hL dL_law_906 dL_law_907 dL_law_908 dL_law_909 dL_law_910 ?_
  refine lw_arg (k := 3) X hl hS (by decide) (by omega) hL dL_law_911 dL_law_912 dL_law_913 dL_law_914 dL_law_915 ?_
  refine lw_calL (N := mX11_look) (bb := 0) (ci := 11) (As := [xs (i + 1), xs (i + 2), xs (i + 3)]) (st := []) X dL_law_916 lk_L_103.1 lk_L_103.2 (by decide +kernel) (by decide +kernel) (by decide) rfl (by decide) rfl (Nat.le_of_ble_eq_true rfl) rfl (Nat.le_of_ble_eq_true rfl) hl.1 rfl hW hS (b_look j hn) (fun r1 g1 l1 H1 locs1 k1 hW1 hS1 => ?_)
  refine lv_aload_n X.hx X.hb dL_law_919 rfl (lv_at hl 3 rfl) ?_
  refine lw_arg (k := 1) X hl hS1 (by decide) (by omega) hL dL_law_920 dL_law_921 dL_law_922 dL_law_923 dL_law_924 ?_
  refine lw_arg (k := 2) X hl hS1 (by decide) (by omega) hL dL_law_925 dL_law_926 dL_law_927 dL_law_928 dL_law_929 ?_
  refine lw_arg (k := 3) X hl hS1 (by decide) (by omega) hL dL_law_930 dL_law_931 dL_law_932 dL_law_933 dL_law_934 ?_
  refine lw_calL (N := mX12_look) (bb := 329) (ci := 12) (As := [xs (i + 1), xs (i + 2), xs (i + 3)]) (st := [.long r1]) X dL_law_935 lk_L_107.1 lk_L_107.2 (by decide +kernel) (by decide +kernel) (by decide) rfl (by decide) rfl (Nat.le_of_ble_eq_true rfl) rfl (Nat.le_of_ble_eq_true rfl) hl.1 rfl hW1 hS1 (k1) (fun r2 g2 l2 H2 locs2 k2 hW2 hS2 => ?_)
  refine W.lcmp X.hx X.hb dL_law_938 ?_
  exact lv_if_eq (tgt := 1059) X.hx X.hb dL_law_939 (by decide) (fun _ => cont _ _ _ _ k2.2 hW2 hS2) (fun q => absurd (lc_eq.2 k2.1) q)
set_option maxRecDepth 100000 in
theorem lw_k21 (X : LwC p s m meth c b L xs D cA ro) (hl : LwL s b i ls) (hi : i + 6 ≤ L) (hL : L ≤ 3072) (j : J σ n gi gl) (hn : n ≤ 600) (hW : Wd s.heap.size D cA κF gi gl H) (hS : va_S (Ab s.heap.size) s.heap H locs) (cont : ∀ g l' H1 locs1, J1 n g l' → Wd s.heap.size D cA κF g l' H1 → va_S (Ab s.heap.size) s.heap H1 locs1 → W p l e room_1 s m #[Value.ref b] below meth c H1 locs1 NN (sl NN) Z (F0 m 1059 ls [])) : W p l e room_1 s m #[Value.ref b] below meth c H locs NN (sl NN) Z (F0 m 944 ls []) := by
  refine lv_aload_n X.hx X.hb dL_law_944 rfl (lv_at hl 2 rfl) ?_
  refine lw_arg (k := 1) X hl hS (by decide) (by omega) hL dL_law_945 dL_law_946 dL_law_947 dL_law_948 dL_law_949 ?_
  refine lw_calI (N := mX11_next) (bb := 0) (ci := 11) (As := [xs (i + 1)]) (st := []) X dL_law_950 lk_L_108.1 lk_L_108.2 (by decide +kernel) (by decide +kernel) (by decide) rfl (by decide) rfl (Nat.le_of_ble_eq_true rfl) rfl (Nat.le_of_ble_eq_true rfl) hl.1 rfl hW hS (b_next j hn) (fun r1 g1 l1 H1 locs1 k1 hW1 hS1 => ?_)
  refine lv_aload_n X.hx X.hb dL_law_953 rfl (lv_at hl 3 rfl) ?_
  refine lw_arg (k := 1) X hl hS1 (by decide) (by omega) hL dL_law_954 dL_law_955 dL_law_956 dL_law_957 dL_law_958 ?_
  refine lw_calI (N := mX12_next_) (bb := 329) (ci := 12) (As := [xs (i + 1)]) (st := [.int r1]) X dL_law_959 lk_L_111.1 lk_L_111.2 (by decide +kernel) (by decide +kernel) (by decide) rfl (by decide) rfl (Nat.le_of_ble_eq_true rfl) rfl (Nat.le_of_ble_eq_true rfl) hl.1 rfl hW1 hS1 (k1) (fun r2 g2 l2 H2 locs2 k2 hW2 hS2 => ?_)
  exact lv_icmp_eq (tgt := 1059) X.hx X.hb dL_law_962 (by decide) (fun _ => cont _ _ _ _ k2.2 hW2 hS2) (fun q => absurd k2.1 q)
set_option maxRecDepth 100000 in
theorem lw_k22 (X : LwC p s m meth c b L xs D cA ro) (hl : LwL s b i ls) (hi : i + 6 ≤ L) (hL : L ≤ 3072) (j : J σ n gi gl) (hn : n ≤ 600) (hW : Wd s.heap.size D cA κF gi gl H) (hS : va_S (Ab s.heap.size) s.heap H locs) (cont : ∀ g l' H1 locs1, J1 n g l' → Wd s.heap.size D cA κF g l' H1 → va_S (Ab s.heap.size) s.heap H1 locs1 → W p l e room_1 s m #[Value.ref b] below meth c H1 locs1 NN (sl NN) Z (F0 m 1059 ls [])) : W p l e room_1 s m #[Value.ref b] below meth c H locs NN (sl NN) Z (F0 m 967 ls []) := by
  refine lv_aload_n X.hx X.hb dL_law_967 rfl (lv_at hl 2 rfl) ?_
  refine lw_arg (k := 1) X hl hS (by decide) (by omega) hL dL_law_968 dL_law_969 dL_law_970 dL_law_971 dL_law_972 ?_
  refine lw_arg (k := 2) X hl hS (by decide) (by omega) hL dL_law_973 dL_law_974 dL_law_975 dL_law_976 dL_law_977 ?_
  refine lw_calI (N := mX11_cloud) (bb := 0) (ci := 11) (As := [xs (i + 1), xs (i + 2)]) (st := []) X dL_law_978 lk_L_112.1 lk_L_112.2 (by decide +kernel) (by decide +kernel) (by decide) rfl (by decide) rfl (Nat.le_of_ble_eq_true rfl) rfl (Nat.le_of_ble_eq_true rfl) hl.1 rfl hW hS (b_cloud j hn) (fun r1 g1 l1 H1 locs1 k1 hW1 hS1 => ?_)
  refine lv_aload_n X.hx X.hb dL_law_981 rfl (lv_at hl 3 rfl) ?_
  refine lw_arg (k := 1) X hl hS1 (by decide) (by omega) hL dL_law_982 dL_law_983 dL_law_984 dL_law_985 dL_law_986 ?_
  refine lw_arg (k := 2) X hl hS1 (by decide) (by omega) hL dL_law_987 dL_law_988 dL_law_989 dL_law_990 dL_law_991 ?_
  refine lw_calI (N := mX12_cloud) (bb := 329) (ci := 12) (As := [xs (i + 1), xs (i + 2)]) (st := [.int r1]) X dL_law_992 lk_L_115.1 lk_L_115.2 (by decide +kernel) (by decide +kernel) (by decide) rfl (by decide) rfl (Nat.le_of_ble_eq_true rfl) rfl (Nat.le_of_ble_eq_true rfl) hl.1 rfl hW1 hS1 (k1) (fun r2 g2 l2 H2 locs2 k2 hW2 hS2 => ?_)
  exact lv_icmp_eq (tgt := 1059) X.hx X.hb dL_law_995 (by decide) (fun _ => cont _ _ _ _ k2.2 hW2 hS2) (fun q => absurd k2.1 q)
set_option maxRecDepth 100000 in
theorem lw_k23 (X : LwC p s m meth c b L xs D cA ro) (hl : LwL s b i ls) (hi : i + 6 ≤ L) (hL : L ≤ 3072) (j : J σ n gi gl) (hn : n ≤ 600) (hW : Wd s.heap.size D cA κF gi gl H) (hS : va_S (Ab s.heap.size) s.heap H locs) (cont : ∀ g l' H1 locs1, J1 n g l' → Wd s.heap.size D cA κF g l' H1 → va_S (Ab s.heap.size) s.heap H1 locs1 → W p l e room_1 s m #[Value.ref b] below meth c H1 locs1 NN (sl NN) Z (F0 m 1059 ls [])) : W p l e room_1 s m #[Value.ref b] below meth c H locs NN (sl NN) Z (F0 m 1000 ls []) := by
  refine lv_aload_n X.hx X.hb dL_law_1000 rfl (lv_at hl 2 rfl) ?_
  refine lw_calI (N := mX11_image) (bb := 0) (ci := 11) (As := []) (st := []) X dL_law_1001 lk_L_116.1 lk_L_116.2 (by decide +kernel) (by decide +kernel) (by decide) rfl (by decide) rfl (Nat.le_of_ble_eq_true rfl) rfl (Nat.le_of_ble_eq_true rfl) hl.1 rfl hW hS (b_image j hn) (fun r1 g1 l1 H1 locs1 k1 hW1 hS1 => ?_)
  refine lv_aload_n X.hx X.hb dL_law_1004 rfl (lv_at hl 3 rfl) ?_
  refine lw_calI (N := mX12_image) (bb := 329) (ci := 12) (As := []) (st := [.int r1]) X dL_law_1005 lk_L_119.1 lk_L_119.2 (by decide +kernel) (by decide +kernel) (by decide) rfl (by decide) rfl (Nat.le_of_ble_eq_true rfl) rfl (Nat.le_of_ble_eq_true rfl) hl.1 rfl hW1 hS1 (k1) (fun r2 g2 l2 H2 locs2 k2 hW2 hS2 => ?_)
  exact lv_icmp_eq (tgt := 1059) X.hx X.hb dL_law_1008 (by decide) (fun _ => cont _ _ _ _ k2.2 hW2 hS2) (fun q => absurd k2.1 q)
set_option maxRecDepth 100000 in
theorem lw_k24 (X : LwC p s m meth c b L xs D cA ro) (hl : LwL s b i ls) (hi : i + 6 ≤ L) (hL : L ≤ 3072) (j : J σ n gi gl) (hn : n ≤ 600) (hW : Wd s.heap.size D cA κF gi gl H) (hS : va_S (Ab s.heap.size) s.heap H locs) (cont : ∀ g l' H1 locs1, J1 n g l' → Wd s.heap.size D cA κF g l' H1 → va_S (Ab s.heap.size) s.heap H1 locs1 → W p l e room_1 s m #[Value.ref b] below meth c H1 locs1 NN (sl NN) Z (F0 m 1059 ls [])) : W p l e room_1 s m #[Value.ref b] below meth c H locs NN (sl NN) Z (F0 m 1013 ls []) := by
  refine lv_aload_n X.hx X.hb dL_law_1013 rfl (lv_at hl 2 rfl) ?_
  refine lw_arg (k := 1) X hl hS (by decide) (by omega) hL dL_law_1014 dL_law_1015 dL_law_1016 dL_law_1017 dL_law_1018 ?_
  refine lw_calI (N := mX11_back) (bb := 0) (ci := 11) (As := [xs (i + 1)]) (st := []) X dL_law_1019 lk_L_120.1 lk_L_120.2 (by decide +kernel) (by decide +kernel) (by decide) rfl (by decide) rfl (Nat.le_of_ble_eq_true rfl) rfl (Nat.le_of_ble_eq_true rfl) hl.1 rfl hW hS (b_back j hn) (fun r1 g1 l1 H1 locs1 k1 hW1 hS1 => ?_)
  refine lv_aload_n X.hx X.hb dL_law_1022 rfl (lv_at hl 3 rfl) ?_
  refine lw_arg (k := 1) X hl hS1 (by decide) (by omega) hL dL_law_1023 dL_law_1024 dL_law_1025 dL_law_1026 dL_law_1027 ?_
  refine lw_calI (N := mX12_back) (bb := 329) (ci := 12) (As := [xs (i + 1)]) (st := [.int r1]) X dL_law_1028 lk_L_124.1 lk_L_124.2 (by decide +kernel) (by decide +kernel) (by decide) rfl (by decide) rfl (Nat.le_of_ble_eq_true rfl) rfl (Nat.le_of_ble_eq_true rfl) hl.1 rfl hW1 hS1 (k1) (fun r2 g2 l2 H2 locs2 k2 hW2 hS2 => ?_)
  exact lv_icmp_eq (tgt := 1059) X.hx X.hb dL_law_1031 (by decide) (fun _ => cont _ _ _ _ k2.2 hW2 hS2) (fun q => absurd k2.1 q)
set_option maxRecDepth 100000 in
theorem lw_k25 (X : LwC p s m meth c b L xs D cA ro) (hl : LwL s b i ls) (hi : i + 6 ≤ L) (hL : L ≤ 3072) (j : J σ n gi gl) (hn : n ≤ 600) (hW : Wd s.heap.size D cA κF gi gl H) (hS : va_S (Ab s.heap.size) s.heap H locs) (cont : ∀ g l' H1 locs1, J1 n g l' → Wd s.heap.size D cA κF g l' H1 → va_S (Ab s.heap.size) s.heap H1 locs1 → W p l e room_1 s m #[Value.ref b] below meth c H1 locs1 NN (sl NN) Z (F0 m 1059 ls [])) : W p l e room_1 s m #[Value.ref b] below meth c H locs NN (sl NN) Z (F0 m 1036 ls []) := by
  refine lv_aload_n X.hx X.hb dL_law_1036 rfl (lv_at hl 2 rfl) ?_
  refine lw_arg (k := 1) X hl hS (by decide) (by omega) hL dL_law_1037 dL_law_1038 dL_law_1039 dL_law_1040 dL_law_1041 ?_
  refine lw_calI (N := mX11_count) (bb := 0) (ci := 11) (As := [xs (i + 1)]) (st := []) X dL_law_1042 lk_L_125.1 lk_L_125.2 (by decide +kernel) (by decide +kernel) (by decide) rfl (by decide) rfl (Nat.le_of_ble_eq_true rfl) rfl (Nat.le_of_ble_eq_true rfl) hl.1 rfl hW hS (b_count j hn) (fun r1 g1 l1 H1 locs1 k1 hW1 hS1 => ?_)
  refine lv_aload_n X.hx X.hb dL_law_1045 rfl (lv_at hl 3 rfl) ?_
  refine lw_arg (k := 1) X hl hS1 (by decide) (by omega) hL dL_law_1046 dL_law_1047 dL_law_1048 dL_law_1049 dL_law_1050 ?_
  refine lw_calI (N := mX12_count) (bb := 329) (ci := 12) (As := [xs (i + 1)]) (st := [.int r1]) X dL_law_1051 lk_L_128.1 lk_L_128.2 (by decide +kernel) (by decide +kernel) (by decide) rfl (by decide) rfl (Nat.le_of_ble_eq_true rfl) rfl (Nat.le_of_ble_eq_true rfl) hl.1 rfl hW1 hS1 (k1) (fun r2 g2 l2 H2 locs2 k2 hW2 hS2 => ?_)
  exact lv_icmp_eq (tgt := 1059) X.hx X.hb dL_law_1054 (by decide) (fun _ => cont _ _ _ _ k2.2 hW2 hS2) (fun q => absurd k2.1 q)
end NI

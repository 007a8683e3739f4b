set_option maxRecDepth 100000 in
set_option maxHeartbeats 4000000 in
theorem law_cellars {p : Program} {l : Launch} {e : Env} {s : State} {m : MethodId} {below : List Frame} {meth : Method} {c : Code} {D : va_G} {cI cJ cR cZ : ClassId} {bS L : Nat} {xs : Nat → Int32} {tF tL tM : Nat} {I : Nat → St → St → Prop} {Q : State → Prop} (X0 : LCX p s m c D cI cJ cR cZ bS L xs tF tL tM) (hIN : Sp_N I) (hI : Sp_cellars I) {j : Nat} (hj : j ≤ 64) {x3 : Int32} (hin1 : vp_in (x3 + 1) L) (hin2 : vp_in (x3 + 2) L) (hin3 : vp_in (x3 + 3) L) (hin4 : vp_in (x3 + 4) L) (hin5 : vp_in (x3 + 5) L) {b : Nat → Nat} (hnext : ∀ (N : Nat) (a : Nat → Nat) (u μ : St), I N u μ → ∀ (H : Heap) (locs : List Loc) (ls : Array Slot), Hh D (fun q => s.heap.size ≤ q) (wX N a (EB a cI cJ cR) u ++ wX 21 b (EM b cI cZ) μ) s.heap H locs → lv_has ls 4 [(0, .ref bS), (1, .ref (a 0)), (2, .ref (b 0)), (3, .int x3)] → W p l e room_1 s m #[Value.ref bS] below meth c H locs (100 + 16 * (j + 1)) (2000 + 119 * (j + 1)) Q (F0 m 1302 ls [])) {N : Nat} {a : Nat → Nat} {u μ : St} (hi : I N u μ) {H : Heap} {locs : List Loc} {ls : Array Slot} (h : Hh D (fun q => s.heap.size ≤ q) (wX N a (EB a cI cJ cR) u ++ wX 21 b (EM b cI cZ) μ) s.heap H locs) (hl : lv_has ls 4 [(0, .ref bS), (1, .ref (a 0)), (2, .ref (b 0)), (3, .int x3)]) : W p l e room_1 s m #[Value.ref bS] below meth c H locs (100 + 16 * j) (2000 + 119 * j) Q (F0 m 200 ls []) := by
  obtain ⟨hx, hb, hml, hown, hts, hKL, hN, hW0, hZ, hX, hbl⟩ := X0
  have hK : va_K D vwCl (tyB cI cJ cR) s := hKL.sub [0, 1, 2] rfl
  have hKm : va_K D vwCl (tyM cI cZ) s := hKL.sub [0, 3] rfl
  have hA : ∀ q : Nat, s.heap.size ≤ q → (fun q : Nat => s.heap.size ≤ q) q := fun _ h9 => h9
  have hbA : ¬ (fun q : Nat => s.heap.size ≤ q) bS := Nat.not_le.mpr hbl
  obtain ⟨hNN, hqA, hqB⟩ := hIN N u μ hi
  obtain ⟨y1, ey1⟩ : ∃ y : Int32, y = xs (x3 + 1).toNatClampNeg := ⟨_, rfl⟩
  obtain ⟨r, u2, μ2, hf1, hf2, hi2⟩ := hI N u μ y1 hi
  refine lv_aload_n (pc := 200) hx hb dL_law_200 rfl (lv_at hl 1 rfl) ?_
  refine lv_aload_n (pc := 201) hx hb dL_law_201 rfl (lv_at hl 0 rfl) ?_
  refine lv_iload_n (pc := 202) hx hb dL_law_202 rfl (lv_at hl 3 rfl) ?_
  refine lv_iconst (pc := 203) (v := 1) hx hb dL_law_203 (by decide) ?_
  refine lv_iadd (pc := 204) hx hb dL_law_204 ?_
  refine va_sld (pc := 205) hx hb hX hbl hbA h.2.2 hin1 dL_law_205 ?_
  refine rTop ey1 ?_
  refine lLi (pc := 206) (n := 1) hx hb hml hown hts hK hN (c_X11_cellars hNN hf1) (gdV ml_L_13 im_X11_cellars se_X11_cellars in_X11 co_X11_cellars) rfl (by decide +kernel) rfl (Nat.le_of_ble_eq_true rfl) (Nat.le_of_ble_eq_true rfl) h hA hl.1 ⟨show 100 + 16 * j ≤ 600000 by omega, show 2000 + 119 * j ≤ 7302250 by omega⟩ (Nat.lt_of_lt_of_le (by decide) hNN) rfl rfl rfl (Nat.le_of_ble_eq_true rfl) dL_law_206 (fun H locs h => ?_)
  refine lv_aload_n (pc := 209) hx hb dL_law_209 rfl (lv_at hl 2 rfl) ?_
  refine lv_aload_n (pc := 210) hx hb dL_law_210 rfl (lv_at hl 0 rfl) ?_
  refine lv_iload_n (pc := 211) hx hb dL_law_211 rfl (lv_at hl 3 rfl) ?_
  refine lv_iconst (pc := 212) (v := 1) hx hb dL_law_212 (by decide) ?_
  refine lv_iadd (pc := 213) hx hb dL_law_213 ?_
  refine va_sld (pc := 214) hx hb hX hbl hbA h.2.2 hin1 dL_law_214 ?_
  refine rTop ey1 ?_
  refine lRi (pc := 215) (n := 1) (rest := [.int r]) hx hb hml hown hts hKm hN (c_X12_cellars hf2) (gdV ml_L_17 im_X12_cellars se_X12_cellars in_X12 co_X12_cellars) rfl (by decide +kernel) rfl (Nat.le_of_ble_eq_true rfl) (Nat.le_of_ble_eq_true rfl) h hA hl.1 ⟨show 100 + 16 * j ≤ 600000 by omega, show 2000 + 119 * j ≤ 7302250 by omega⟩ (by decide) rfl rfl rfl (Nat.le_of_ble_eq_true rfl) dL_law_215 (fun H locs h => ?_)
  refine lv_icmp_eq (pc := 218) (tgt := 1302) hx hb dL_law_218 (by decide) (fun _ => ?_) (fun h9 => absurd rfl h9)
  refine W.widen (k := 100 + 16 * (j + 1)) (n := 2000 + 119 * (j + 1)) (by omega) (by omega) ?_
  exact hnext _ _ _ _ hi2 _ _ _ h hl
set_option maxRecDepth 100000 in
set_option maxHeartbeats 4000000 in
theorem law_cellar {p : Program} {l : Launch} {e : Env} {s : State} {m : MethodId} {below : List Frame} {meth : Method} {c : Code} {D : va_G} {cI cJ cR cZ : ClassId} {bS L : Nat} {xs : Nat → Int32} {tF tL tM : Nat} {I : Nat → St → St → Prop} {Q : State → Prop} (X0 : LCX p s m c D cI cJ cR cZ bS L xs tF tL tM) (hIN : Sp_N I) (hI : Sp_cellar I) {j : Nat} (hj : j ≤ 64) {x3 : Int32} (hin1 : vp_in (x3 + 1) L) (hin2 : vp_in (x3 + 2) L) (hin3 : vp_in (x3 + 3) L) (hin4 : vp_in (x3 + 4) L) (hin5 : vp_in (x3 + 5) L) {b : Nat → Nat} (hnext : ∀ (N : Nat) (a : Nat → Nat) (u μ : St), I N u μ → ∀ (H : Heap) (locs : List Loc) (ls : Array Slot), Hh D (fun q => s.heap.size ≤ q) (wX N a (EB a cI cJ cR) u ++ wX 21 b (EM b cI cZ) μ) s.heap H locs → lv_has ls 4 [(0, .ref bS), (1, .ref (a 0)), (2, .ref (b 0)), (3, .int x3)] → W p l e room_1 s m #[Value.ref bS] below meth c H locs (100 + 16 * (j + 1)) (2000 + 119 * (j + 1)) Q (F0 m 1302 ls [])) {N : Nat} {a : Nat → Nat} {u μ : St} (hi : I N u μ) {H : Heap} {locs : List Loc} {ls : Array Slot} (h : Hh D (fun q => s.heap.size ≤ q) (wX N a (EB a cI cJ cR) u ++ wX 21 b (EM b cI cZ) μ) s.heap H locs) (hl : lv_has ls 4 [(0, .ref bS), (1, .ref (a 0)), (2, .ref (b 0)), (3, .int x3)]) : W p l e room_1 s m #[Value.ref bS] below meth c H locs (100 + 16 * j) (2000 + 119 * j) Q (F0 m 223 ls []) := by
  obtain ⟨hx, hb, hml, hown, hts, hKL, hN, hW0, hZ, hX, hbl⟩ := X0
  have hK : va_K D vwCl (tyB cI cJ cR) s := hKL.sub [0, 1, 2] rfl
  have hKm : va_K D vwCl (tyM cI cZ) s := hKL.sub [0, 3] rfl
  have hA : ∀ q : Nat, s.heap.size ≤ q → (fun q : Nat => s.heap.size ≤ q) q := fun _ h9 => h9
  have hbA : ¬ (fun q : Nat => s.heap.size ≤ q) bS := Nat.not_le.mpr hbl
  obtain ⟨hNN, hqA, hqB⟩ := hIN N u μ hi
  obtain ⟨y1, ey1⟩ : ∃ y : Int32, y = xs (x3 + 1).toNatClampNeg := ⟨_, rfl⟩
  obtain ⟨y2, ey2⟩ : ∃ y : Int32, y = xs (x3 + 2).toNatClampNeg := ⟨_, rfl⟩
  obtain ⟨y3, ey3⟩ : ∃ y : Int32, y = xs (x3 + 3).toNatClampNeg := ⟨_, rfl⟩
  obtain ⟨r, u2, μ2, hf1, hf2, hi2⟩ := hI N u μ y1 y2 y3 hi
  refine lv_aload_n (pc := 223) hx hb dL_law_223 rfl (lv_at hl 1 rfl) ?_
  refine lv_aload_n (pc := 224) hx hb dL_law_224 rfl (lv_at hl 0 rfl) ?_
  refine lv_iload_n (pc := 225) hx hb dL_law_225 rfl (lv_at hl 3 rfl) ?_
  refine lv_iconst (pc := 226) (v := 1) hx hb dL_law_226 (by decide) ?_
  refine lv_iadd (pc := 227) hx hb dL_law_227 ?_
  refine va_sld (pc := 228) hx hb hX hbl hbA h.2.2 hin1 dL_law_228 ?_
  refine rTop ey1 ?_
  refine lv_aload_n (pc := 229) hx hb dL_law_229 rfl (lv_at hl 0 rfl) ?_
  refine lv_iload_n (pc := 230) hx hb dL_law_230 rfl (lv_at hl 3 rfl) ?_
  refine lv_iconst (pc := 231) (v := 2) hx hb dL_law_231 (by decide) ?_
  refine lv_iadd (pc := 232) hx hb dL_law_232 ?_
  refine va_sld (pc := 233) hx hb hX hbl hbA h.2.2 hin2 dL_law_233 ?_
  refine rTop ey2 ?_
  refine lv_aload_n (pc := 234) hx hb dL_law_234 rfl (lv_at hl 0 rfl) ?_
  refine lv_iload_n (pc := 235) hx hb dL_law_235 rfl (lv_at hl 3 rfl) ?_
  refine lv_iconst (pc := 236) (v := 3) hx hb dL_law_236 (by decide) ?_
  refine lv_iadd (pc := 237) hx hb dL_law_237 ?_
  refine va_sld (pc := 238) hx hb hX hbl hbA h.2.2 hin3 dL_law_238 ?_
  refine rTop ey3 ?_
  refine lLi (pc := 239) (n := 3) hx hb hml hown hts hK hN (c_X11_cellar hNN hf1) (gdV ml_L_18 im_X11_cellar se_X11_cellar in_X11 co_X11_cellar) rfl (by decide +kernel) rfl (Nat.le_of_ble_eq_true rfl) (Nat.le_of_ble_eq_true rfl) h hA hl.1 ⟨show 100 + 16 * j ≤ 600000 by omega, show 2000 + 119 * j ≤ 7302250 by omega⟩ (Nat.lt_of_lt_of_le (by decide) hNN) rfl rfl rfl (Nat.le_of_ble_eq_true rfl) dL_law_239 (fun H locs h => ?_)
  refine lv_aload_n (pc := 242) hx hb dL_law_242 rfl (lv_at hl 2 rfl) ?_
  refine lv_aload_n (pc := 243) hx hb dL_law_243 rfl (lv_at hl 0 rfl) ?_
  refine lv_iload_n (pc := 244) hx hb dL_law_244 rfl (lv_at hl 3 rfl) ?_
  refine lv_iconst (pc := 245) (v := 1) hx hb dL_law_245 (by decide) ?_
  refine lv_iadd (pc := 246) hx hb dL_law_246 ?_
  refine va_sld (pc := 247) hx hb hX hbl hbA h.2.2 hin1 dL_law_247 ?_
  refine rTop ey1 ?_
  refine lv_aload_n (pc := 248) hx hb dL_law_248 rfl (lv_at hl 0 rfl) ?_
  refine lv_iload_n (pc := 249) hx hb dL_law_249 rfl (lv_at hl 3 rfl) ?_
  refine lv_iconst (pc := 250) (v := 2) hx hb dL_law_250 (by decide) ?_
  refine lv_iadd (pc := 251) hx hb dL_law_251 ?_
  refine va_sld (pc := 252) hx hb hX hbl hbA h.2.2 hin2 dL_law_252 ?_
  refine rTop ey2 ?_
  refine lv_aload_n (pc := 253) hx hb dL_law_253 rfl (lv_at hl 0 rfl) ?_
  refine lv_iload_n (pc := 254) hx hb dL_law_254 rfl (lv_at hl 3 rfl) ?_
  refine lv_iconst (pc := 255) (v := 3) hx hb dL_law_255 (by decide) ?_
  refine lv_iadd (pc := 256) hx hb dL_law_256 ?_
  refine va_sld (pc := 257) hx hb hX hbl hbA h.2.2 hin3 dL_law_257 ?_
  refine rTop ey3 ?_
  refine lRi (pc := 258) (n := 3) (rest := [.int r]) hx hb hml hown hts hKm hN (c_X12_cellar hf2) (gdV ml_L_22 im_X12_cellar se_X12_cellar in_X12 co_X12_cellar) rfl (by decide +kernel) rfl (Nat.le_of_ble_eq_true rfl) (Nat.le_of_ble_eq_true rfl) h hA hl.1 ⟨show 100 + 16 * j ≤ 600000 by omega, show 2000 + 119 * j ≤ 7302250 by omega⟩ (by decide) rfl rfl rfl (Nat.le_of_ble_eq_true rfl) dL_law_258 (fun H locs h => ?_)
  refine lv_icmp_eq (pc := 261) (tgt := 1302) hx hb dL_law_261 (by decide) (fun _ => ?_) (fun h9 => absurd rfl h9)
  refine W.widen (k := 100 + 16 * (j + 1)) (n := 2000 + 119 * (j + 1)) (by omega) (by omega) ?_
  exact hnext _ _ _ _ hi2 _ _ _ h hl
set_option maxRecDepth 100000 in
set_option maxHeartbeats 4000000 in
theorem law_wall {p : Program} {l : Launch} {e : Env} {s : State} {m : MethodId} {below : List Frame} {meth : Method} {c : Code} {D : va_G} {cI cJ cR cZ : ClassId} {bS L : Nat} {xs : Nat → Int32} {tF tL tM : Nat} {I : Nat → St → St → Prop} {Q : State → Prop} (X0 : LCX p s m c D cI cJ cR cZ bS L xs tF tL tM) (hIN : Sp_N I) (hI : Sp_wall I) {j : Nat} (hj : j ≤ 64) {x3 : Int32} (hin1 : vp_in (x3 + 1) L) (hin2 : vp_in (x3 + 2) L) (hin3 : vp_in (x3 + 3) L) (hin4 : vp_in (x3 + 4) L) (hin5 : vp_in (x3 + 5) L) {b : Nat → Nat} (hnext : ∀ (N : Nat) (a : Nat → Nat) (u μ : St), I N u μ → ∀ (H : Heap) (locs : List Loc) (ls : Array Slot), Hh D (fun q => s.heap.size ≤ q) (wX N a (EB a cI cJ cR) u ++ wX 21 b (EM b cI cZ) μ) s.heap H locs → lv_has ls 4 [(0, .ref bS), (1, .ref (a 0)), (2, .ref (b 0)), (3, .int x3)] → W p l e room_1 s m #[Value.ref bS] below meth c H locs (100 + 16 * (j + 1)) (2000 + 119 * (j + 1)) Q (F0 m 1302 ls [])) {N : Nat} {a : Nat → Nat} {u μ : St} (hi : I N u μ) {H : Heap} {locs : List Loc} {ls : Array Slot} (h : Hh D (fun q => s.heap.size ≤ q) (wX N a (EB a cI cJ cR) u ++ wX 21 b (EM b cI cZ) μ) s.heap H locs) (hl : lv_has ls 4 [(0, .ref bS), (1, .ref (a 0)), (2, .ref (b 0)), (3, .int x3)]) : W p l e room_1 s m #[Value.ref bS] below meth c H locs (100 + 16 * j) (2000 + 119 * j) Q (F0 m 266 ls []) := by
  obtain ⟨hx, hb, hml, hown, hts, hKL, hN, hW0, hZ, hX, hbl⟩ := X0
  have hK : va_K D vwCl (tyB cI cJ cR) s := hKL.sub [0, 1, 2] rfl
  have hKm : va_K D vwCl (tyM cI cZ) s := hKL.sub [0, 3] rfl
  have hA : ∀ q : Nat, s.heap.size ≤ q → (fun q : Nat => s.heap.size ≤ q) q := fun _ h9 => h9
  have hbA : ¬ (fun q : Nat => s.heap.size ≤ q) bS := Nat.not_le.mpr hbl
  obtain ⟨hNN, hqA, hqB⟩ := hIN N u μ hi
  obtain ⟨y1, ey1⟩ : ∃ y : Int32, y = xs (x3 + 1).toNatClampNeg := ⟨_, rfl⟩
  obtain ⟨y2, ey2⟩ : ∃ y : Int32, y = xs (x3 + 2).toNatClampNeg := ⟨_, rfl⟩
  by_cases cw : y2 = 0
  · obtain ⟨r, u2, μ2, hf1, hf2, hi2⟩ := hI N u μ y1 0 (Or.inl rfl) hi
    refine lv_aload_n (pc := 266) hx hb dL_law_266 rfl (lv_at hl 1 rfl) ?_
    refine lv_aload_n (pc := 267) hx hb dL_law_267 rfl (lv_at hl 0 rfl) ?_
    refine lv_iload_n (pc := 268) hx hb dL_law_268 rfl (lv_at hl 3 rfl) ?_
    refine lv_iconst (pc := 269) (v := 1) hx hb dL_law_269 (by decide) ?_
    refine lv_iadd (pc := 270) hx hb dL_law_270 ?_
    refine va_sld (pc := 271) hx hb hX hbl hbA h.2.2 hin1 dL_law_271 ?_
    refine rTop ey1 ?_
    refine lv_aload_n (pc := 272) hx hb dL_law_272 rfl (lv_at hl 0 rfl) ?_
    refine lv_iload_n (pc := 273) hx hb dL_law_273 rfl (lv_at hl 3 rfl) ?_
    refine lv_iconst (pc := 274) (v := 2) hx hb dL_law_274 (by decide) ?_
    refine lv_iadd (pc := 275) hx hb dL_law_275 ?_
    refine va_sld (pc := 276) hx hb hX hbl hbA h.2.2 hin2 dL_law_276 ?_
    refine rTop ey2 ?_
    refine lv_if_eq (pc := 277) (tgt := 284) hx hb dL_law_277 (by decide) (fun _ => ?_) (fun h9 => absurd cw h9)
    refine lv_iconst (pc := 284) (v := 0) hx hb dL_law_284 (by decide) ?_
    refine lLi (pc := 285) (n := 2) hx hb hml hown hts hK hN (c_X11_wall hNN hf1) (gdV ml_L_23 im_X11_wall se_X11_wall in_X11 co_X11_wall) rfl (by decide +kernel) rfl (Nat.le_of_ble_eq_true rfl) (Nat.le_of_ble_eq_true rfl) h hA hl.1 ⟨show 100 + 16 * j ≤ 600000 by omega, show 2000 + 119 * j ≤ 7302250 by omega⟩ (Nat.lt_of_lt_of_le (by decide) hNN) rfl rfl rfl (Nat.le_of_ble_eq_true rfl) dL_law_285 (fun H locs h => ?_)
    refine lv_aload_n (pc := 288) hx hb dL_law_288 rfl (lv_at hl 2 rfl) ?_
    refine lv_aload_n (pc := 289) hx hb dL_law_289 rfl (lv_at hl 0 rfl) ?_
    refine lv_iload_n (pc := 290) hx hb dL_law_290 rfl (lv_at hl 3 rfl) ?_
    refine lv_iconst (pc := 291) (v := 1) hx hb dL_law_291 (by decide) ?_
    refine lv_iadd (pc := 292) hx hb dL_law_292 ?_
    refine va_sld (pc := 293) hx hb hX hbl hbA h.2.2 hin1 dL_law_293 ?_
    refine rTop ey1 ?_
    refine lv_aload_n (pc := 294) hx hb dL_law_294 rfl (lv_at hl 0 rfl) ?_
    refine lv_iload_n (pc := 295) hx hb dL_law_295 rfl (lv_at hl 3 rfl) ?_
    refine lv_iconst (pc := 296) (v := 2) hx hb dL_law_296 (by decide) ?_
    refine lv_iadd (pc := 297) hx hb dL_law_297 ?_
    refine va_sld (pc := 298) hx hb hX hbl hbA h.2.2 hin2 dL_law_298 ?_
    refine rTop ey2 ?_
    refine lv_if_eq (pc := 299) (tgt := 306) hx hb dL_law_299 (by decide) (fun _ => ?_) (fun h9 => absurd cw h9)
    refine lv_iconst (pc := 306) (v := 0) hx hb dL_law_306 (by decide) ?_
    refine lRi (pc := 307) (n := 2) (rest := [.int r]) hx hb hml hown hts hKm hN (c_X12_wall hf2) (gdV ml_L_27 im_X12_wall se_X12_wall in_X12 co_X12_wall) rfl (by decide +kernel) rfl (Nat.le_of_ble_eq_true rfl) (Nat.le_of_ble_eq_true rfl) h hA hl.1 ⟨show 100 + 16 * j ≤ 600000 by omega, show 2000 + 119 * j ≤ 7302250 by omega⟩ (by decide) rfl rfl rfl (Nat.le_of_ble_eq_true rfl) dL_law_307 (fun H locs h => ?_)
    refine lv_icmp_eq (pc := 310) (tgt := 1302) hx hb dL_law_310 (by decide) (fun _ => ?_) (fun h9 => absurd rfl h9)
    refine W.widen (k := 100 + 16 * (j + 1)) (n := 2000 + 119 * (j + 1)) (by omega) (by omega) ?_
    exact hnext _ _ _ _ hi2 _ _ _ h hl
  · obtain ⟨r, u2, μ2, hf1, hf2, hi2⟩ := hI N u μ y1 1 (Or.inr rfl) hi
    refine lv_aload_n (pc := 266) hx hb dL_law_266 rfl (lv_at hl 1 rfl) ?_
    refine lv_aload_n (pc := 267) hx hb dL_law_267 rfl (lv_at hl 0 rfl) ?_
    refine lv_iload_n (pc := 268) hx hb dL_law_268 rfl (lv_at hl 3 rfl) ?_
    refine lv_iconst (pc := 269) (v := 1) hx hb dL_law_269 (by decide) ?_
    refine lv_iadd (pc := 270) hx hb dL_law_270 ?_
    refine va_sld (pc := 271) hx hb hX hbl hbA h.2.2 hin1 dL_law_271 ?_
    refine rTop ey1 ?_
    refine lv_aload_n (pc := 272) hx hb dL_law_272 rfl (lv_at hl 0 rfl) ?_
    refine lv_iload_n (pc := 273) hx hb dL_law_273 rfl (lv_at hl 3 rfl) ?_
    refine lv_iconst (pc := 274) (v := 2) hx hb dL_law_274 (by decide) ?_
    refine lv_iadd (pc := 275) hx hb dL_law_275 ?_
    refine va_sld (pc := 276) hx hb hX hbl hbA h.2.2 hin2 dL_law_276 ?_
    refine rTop ey2 ?_
    refine lv_if_eq (pc := 277) (tgt := 284) hx hb dL_law_277 (by decide) (fun h9 => absurd h9 cw) (fun _ => ?_)
    refine lv_iconst (pc := 280) (v := 1) hx hb dL_law_280 (by decide) ?_
    refine lv_goto (pc := 281) (tgt := 285) hx hb dL_law_281 (by decide) ?_
    refine lLi (pc := 285) (n := 2) hx hb hml hown hts hK hN (c_X11_wall hNN hf1) (gdV ml_L_23 im_X11_wall se_X11_wall in_X11 co_X11_wall) rfl (by decide +kernel) rfl (Nat.le_of_ble_eq_true rfl) (Nat.le_of_ble_eq_true rfl) h hA hl.1 ⟨show 100 + 16 * j ≤ 600000 by omega, show 2000 + 119 * j ≤ 7302250 by omega⟩ (Nat.lt_of_lt_of_le (by decide) hNN) rfl rfl rfl (Nat.le_of_ble_eq_true rfl) dL_law_285 (fun H locs h => ?_)
    refine lv_aload_n (pc := 288) hx hb dL_law_288 rfl (lv_at hl 2 rfl) ?_
    refine lv_aload_n (pc := 289) hx hb dL_law_289 rfl (lv_at hl 0 rfl) ?_
    refine lv_iload_n (pc := 290) hx hb dL_law_290 rfl (lv_at hl 3 rfl) ?_
    refine lv_iconst (pc := 291) (v := 1) hx hb dL_law_291 (by decide) ?_
    refine lv_iadd (pc := 292) hx hb dL_law_292 ?_
    refine va_sld (pc := 293) hx hb hX hbl hbA h.2.2 hin1 dL_law_293 ?_
    refine rTop ey1 ?_
    refine lv_aload_n (pc := 294) hx hb dL_law_294 rfl (lv_at hl 0 rfl) ?_
    refine lv_iload_n (pc := 295) hx hb dL_law_295 rfl (lv_at hl 3 rfl) ?_
    refine lv_iconst (pc := 296) (v := 2) hx hb dL_law_296 (by decide) ?_
    refine lv_iadd (pc := 297) hx hb dL_law_297 ?_
    refine va_sld (pc := 298) hx hb hX hbl hbA h.2.2 hin2 dL_law_298 ?_
    refine rTop ey2 ?_
    refine lv_if_eq (pc := 299) (tgt := 306) hx hb dL_law_299 (by decide) (fun h9 => absurd h9 cw) (fun _ => ?_)
    refine lv_iconst (pc := 302) (v := 1) hx hb dL_law_302 (by decide) ?_
    refine lv_goto (pc := 303) (tgt := 307) hx hb dL_law_303 (by decide) ?_
    refine lRi (pc := 307) (n := 2) (rest := [.int r]) hx hb hml hown hts hKm hN (c_X12_wall hf2) (gdV ml_L_27 im_X12_wall se_X12_wall in_X12 co_X12_wall) rfl (by decide +kernel) rfl (Nat.le_of_ble_eq_true rfl) (Nat.le_of_ble_eq_true rfl) h hA hl.1 ⟨show 100 + 16 * j ≤ 600000 by omega, show 2000 + 119 * j ≤ 7302250 by omega⟩ (by decide) rfl rfl rfl (Nat.le_of_ble_eq_true rfl) dL_law_307 (fun H locs h => ?_)
    refine lv_icmp_eq (pc := 310) (tgt := 1302) hx hb dL_law_310 (by decide) (fun _ => ?_) (fun h9 => absurd rfl h9)
    refine W.widen (k := 100 + 16 * (j + 1)) (n := 2000 + 119 * (j + 1)) (by omega) (by omega) ?_
    exact hnext _ _ _ _ hi2 _ _ _ h hl
set_option maxRecDepth 100000 in
set_option maxHeartbeats 4000000 in
theorem law_barrel {p : Program} {l : Launch} {e : Env} {s : State} {m : MethodId} {below : List Frame} {meth : Method} {c : Code} {D : va_G} {cI cJ cR cZ : ClassId} {bS L : Nat} {xs : Nat → Int32} {tF tL tM : Nat} {I : Nat → St → St → Prop} {Q : State → Prop} (X0 : LCX p s m c D cI cJ cR cZ bS L xs tF tL tM) (hIN : Sp_N I) (hI : Sp_barrel I) {j : Nat} (hj : j ≤ 64) {x3 : Int32} (hin1 : vp_in (x3 + 1) L) (hin2 : vp_in (x3 + 2) L) (hin3 : vp_in (x3 + 3) L) (hin4 : vp_in (x3 + 4) L) (hin5 : vp_in (x3 + 5) L) {b : Nat → Nat} (hnext : ∀ (N : Nat) (a : Nat → Nat) (u μ : St), I N u μ → ∀ (H : Heap) (locs : List Loc) (ls : Array Slot), Hh D (fun q => s.heap.size ≤ q) (wX N a (EB a cI cJ cR) u ++ wX 21 b (EM b cI cZ) μ) s.heap H locs → lv_has ls 4 [(0, .ref bS), (1, .ref (a 0)), (2, .ref (b 0)), (3, .int x3)] → W p l e room_1 s m #[Value.ref bS] below meth c H locs (100 + 16 * (j + 1)) (2000 + 119 * (j + 1)) Q (F0 m 1302 ls [])) {N : Nat} {a : Nat → Nat} {u μ : St} (hi : I N u μ) {H : Heap} {locs : List Loc} {ls : Array Slot} (h : Hh D (fun q => s.heap.size ≤ q) (wX N a (EB a cI cJ cR) u ++ wX 21 b (EM b cI cZ) μ) s.heap H locs) (hl : lv_has ls 4 [(0, .ref bS), (1, .ref (a 0)), (2, .ref (b 0)), (3, .int x3)]) : W p l e room_1 s m #[Value.ref bS] below meth c H locs (100 + 16 * j) (2000 + 119 * j) Q (F0 m 315 ls []) := by
  obtain ⟨hx, hb, hml, hown, hts, hKL, hN, hW0, hZ, hX, hbl⟩ := X0
  have hK : va_K D vwCl (tyB cI cJ cR) s := hKL.sub [0, 1, 2] rfl
  have hKm : va_K D vwCl (tyM cI cZ) s := hKL.sub [0, 3] rfl
  have hA : ∀ q : Nat, s.heap.size ≤ q → (fun q : Nat => s.heap.size ≤ q) q := fun _ h9 => h9
  have hbA : ¬ (fun q : Nat => s.heap.size ≤ q) bS := Nat.not_le.mpr hbl
  obtain ⟨hNN, hqA, hqB⟩ := hIN N u μ hi
  obtain ⟨y1, ey1⟩ : ∃ y : Int32, y = xs (x3 + 1).toNatClampNeg := ⟨_, rfl⟩
  obtain ⟨y2, ey2⟩ : ∃ y : Int32, y = xs (x3 + 2).toNatClampNeg := ⟨_, rfl⟩
  obtain ⟨y3, ey3⟩ : ∃ y : Int32, y = xs (x3 + 3).toNatClampNeg := ⟨_, rfl⟩
  obtain ⟨y4, ey4⟩ : ∃ y : Int32, y = xs (x3 + 4).toNatClampNeg := ⟨_, rfl⟩
  obtain ⟨y5, ey5⟩ : ∃ y : Int32, y = xs (x3 + 5).toNatClampNeg := ⟨_, rfl⟩
  obtain ⟨r, u2, μ2, hf1, hf2, hi2⟩ := hI N u μ y1 y2 y3 y4 y5 hi
  refine lv_aload_n (pc := 315) hx hb dL_law_315 rfl (lv_at hl 1 rfl) ?_
  refine lv_aload_n (pc := 316) hx hb dL_law_316 rfl (lv_at hl 0 rfl) ?_
  refine lv_iload_n (pc := 317) hx hb dL_law_317 rfl (lv_at hl 3 rfl) ?_
  refine lv_iconst (pc := 318) (v := 1) hx hb dL_law_318 (by decide) ?_
  refine lv_iadd (pc := 319) hx hb dL_law_319 ?_
  refine va_sld (pc := 320) hx hb hX hbl hbA h.2.2 hin1 dL_law_320 ?_
  refine rTop ey1 ?_
  refine lv_aload_n (pc := 321) hx hb dL_law_321 rfl (lv_at hl 0 rfl) ?_
  refine lv_iload_n (pc := 322) hx hb dL_law_322 rfl (lv_at hl 3 rfl) ?_
  refine lv_iconst (pc := 323) (v := 2) hx hb dL_law_323 (by decide) ?_
  refine lv_iadd (pc := 324) hx hb dL_law_324 ?_
  refine va_sld (pc := 325) hx hb hX hbl hbA h.2.2 hin2 dL_law_325 ?_
  refine rTop ey2 ?_
  refine lv_aload_n (pc := 326) hx hb dL_law_326 rfl (lv_at hl 0 rfl) ?_
  refine lv_iload_n (pc := 327) hx hb dL_law_327 rfl (lv_at hl 3 rfl) ?_
  refine lv_iconst (pc := 328) (v := 3) hx hb dL_law_328 (by decide) ?_
  refine lv_iadd (pc := 329) hx hb dL_law_329 ?_
  refine va_sld (pc := 330) hx hb hX hbl hbA h.2.2 hin3 dL_law_330 ?_
  refine rTop ey3 ?_
  refine lv_aload_n (pc := 331) hx hb dL_law_331 rfl (lv_at hl 0 rfl) ?_
  refine lv_iload_n (pc := 332) hx hb dL_law_332 rfl (lv_at hl 3 rfl) ?_
  refine lv_iconst (pc := 333) (v := 4) hx hb dL_law_333 (by decide) ?_
  refine lv_iadd (pc := 334) hx hb dL_law_334 ?_
  refine va_sld (pc := 335) hx hb hX hbl hbA h.2.2 hin4 dL_law_335 ?_
  refine rTop ey4 ?_
  refine lv_aload_n (pc := 336) hx hb dL_law_336 rfl (lv_at hl 0 rfl) ?_
  refine lv_iload_n (pc := 337) hx hb dL_law_337 rfl (lv_at hl 3 rfl) ?_
  refine lv_iconst (pc := 338) (v := 5) hx hb dL_law_338 (by decide) ?_
  refine lv_iadd (pc := 339) hx hb dL_law_339 ?_
  refine va_sld (pc := 340) hx hb hX hbl hbA h.2.2 hin5 dL_law_340 ?_
  refine rTop ey5 ?_
  refine lLi (pc := 341) (n := 5) hx hb hml hown hts hK hN (c_X11_barrel hNN hf1) (gdV ml_L_28 im_X11_barrel se_X11_barrel in_X11 co_X11_barrel) rfl (by decide +kernel) rfl (Nat.le_of_ble_eq_true rfl) (Nat.le_of_ble_eq_true rfl) h hA hl.1 ⟨show 100 + 16 * j ≤ 600000 by omega, show 2000 + 119 * j ≤ 7302250 by omega⟩ (Nat.lt_of_lt_of_le (by decide) hNN) rfl rfl rfl (Nat.le_of_ble_eq_true rfl) dL_law_341 (fun H locs h => ?_)
  refine lv_aload_n (pc := 344) hx hb dL_law_344 rfl (lv_at hl 2 rfl) ?_
  refine lv_aload_n (pc := 345) hx hb dL_law_345 rfl (lv_at hl 0 rfl) ?_
  refine lv_iload_n (pc := 346) hx hb dL_law_346 rfl (lv_at hl 3 rfl) ?_
  refine lv_iconst (pc := 347) (v := 1) hx hb dL_law_347 (by decide) ?_
  refine lv_iadd (pc := 348) hx hb dL_law_348 ?_
  refine va_sld (pc := 349) hx hb hX hbl hbA h.2.2 hin1 dL_law_349 ?_
  refine rTop ey1 ?_
  refine lv_aload_n (pc := 350) hx hb dL_law_350 rfl (lv_at hl 0 rfl) ?_
  refine lv_iload_n (pc := 351) hx hb dL_law_351 rfl (lv_at hl 3 rfl) ?_
  refine lv_iconst (pc := 352) (v := 2) hx hb dL_law_352 (by decide) ?_
  refine lv_iadd (pc := 353) hx hb dL_law_353 ?_
  refine va_sld (pc := 354) hx hb hX hbl hbA h.2.2 hin2 dL_law_354 ?_
  refine rTop ey2 ?_
  refine lv_aload_n (pc := 355) hx hb dL_law_355 rfl (lv_at hl 0 rfl) ?_
  refine lv_iload_n (pc := 356) hx hb dL_law_356 rfl (lv_at hl 3 rfl) ?_
  refine lv_iconst (pc := 357) (v := 3) hx hb dL_law_357 (by decide) ?_
  refine lv_iadd (pc := 358) hx hb dL_law_358 ?_
  refine va_sld (pc := 359) hx hb hX hbl hbA h.2.2 hin3 dL_law_359 ?_
  refine rTop ey3 ?_
  refine lv_aload_n (pc := 360) hx hb dL_law_360 rfl (lv_at hl 0 rfl) ?_
  refine lv_iload_n (pc := 361) hx hb dL_law_361 rfl (lv_at hl 3 rfl) ?_
  refine lv_iconst (pc := 362) (v := 4) hx hb dL_law_362 (by decide) ?_
  refine lv_iadd (pc := 363) hx hb dL_law_363 ?_
  refine va_sld (pc := 364) hx hb hX hbl hbA h.2.2 hin4 dL_law_364 ?_
  refine rTop ey4 ?_
  refine lv_aload_n (pc := 365) hx hb dL_law_365 rfl (lv_at hl 0 rfl) ?_
  refine lv_iload_n (pc := 366) hx hb dL_law_366 rfl (lv_at hl 3 rfl) ?_
  refine lv_iconst (pc := 367) (v := 5) hx hb dL_law_367 (by decide) ?_
  refine lv_iadd (pc := 368) hx hb dL_law_368 ?_
  refine va_sld (pc := 369) hx hb hX hbl hbA h.2.2 hin5 dL_law_369 ?_
  refine rTop ey5 ?_
  refine lRi (pc := 370) (n := 5) (rest := [.int r]) hx hb hml hown hts hKm hN (c_X12_barrel hf2) (gdV ml_L_32 im_X12_barrel se_X12_barrel in_X12 co_X12_barrel) rfl (by decide +kernel) rfl (Nat.le_of_ble_eq_true rfl) (Nat.le_of_ble_eq_true rfl) h hA hl.1 ⟨show 100 + 16 * j ≤ 600000 by omega, show 2000 + 119 * j ≤ 7302250 by omega⟩ (by decide) rfl rfl rfl (Nat.le_of_ble_eq_true rfl) dL_law_370 (fun H locs h => ?_)
  refine lv_icmp_eq (pc := 373) (tgt := 1302) hx hb dL_law_373 (by decide) (fun _ => ?_) (fun h9 => absurd rfl h9)
  refine W.widen (k := 100 + 16 * (j + 1)) (n := 2000 + 119 * (j + 1)) (by omega) (by omega) ?_
  exact hnext _ _ _ _ hi2 _ _ _ h hl
set_option maxRecDepth 100000 in
set_option maxHeartbeats 4000000 in
theorem law_drink {p : Program} {l : Launch} {e : Env} {s : State} {m : MethodId} {below : List Frame} {meth : Method} {c : Code} {D : va_G} {cI cJ cR cZ : ClassId} {bS L : Nat} {xs : Nat → Int32} {tF tL tM : Nat} {I : Nat → St → St → Prop} {Q : State → Prop} (X0 : LCX p s m c D cI cJ cR cZ bS L xs tF tL tM) (hIN : Sp_N I) (hI : Sp_drink I) {j : Nat} (hj : j ≤ 64) {x3 : Int32} (hin1 : vp_in (x3 + 1) L) (hin2 : vp_in (x3 + 2) L) (hin3 : vp_in (x3 + 3) L) (hin4 : vp_in (x3 + 4) L) (hin5 : vp_in (x3 + 5) L) {b : Nat → Nat} (hnext : ∀ (N : Nat) (a : Nat → Nat) (u μ : St), I N u μ → ∀ (H : Heap) (locs : List Loc) (ls : Array Slot), Hh D (fun q => s.heap.size ≤ q) (wX N a (EB a cI cJ cR) u ++ wX 21 b (EM b cI cZ) μ) s.heap H locs → lv_has ls 4 [(0, .ref bS), (1, .ref (a 0)), (2, .ref (b 0)), (3, .int x3)] → W p l e room_1 s m #[Value.ref bS] below meth c H locs (100 + 16 * (j + 1)) (2000 + 119 * (j + 1)) Q (F0 m 1302 ls [])) {N : Nat} {a : Nat → Nat} {u μ : St} (hi : I N u μ) {H : Heap} {locs : List Loc} {ls : Array Slot} (h : Hh D (fun q => s.heap.size ≤ q) (wX N a (EB a cI cJ cR) u ++ wX 21 b (EM b cI cZ) μ) s.heap H locs) (hl : lv_has ls 4 [(0, .ref bS), (1, .ref (a 0)), (2, .ref (b 0)), (3, .int x3)]) : W p l e room_1 s m #[Value.ref bS] below meth c H locs (100 + 16 * j) (2000 + 119 * j) Q (F0 m 378 ls []) := by
  obtain ⟨hx, hb, hml, hown, hts, hKL, hN, hW0, hZ, hX, hbl⟩ := X0
  have hK : va_K D vwCl (tyB cI cJ cR) s := hKL.sub [0, 1, 2] rfl
  have hKm : va_K D vwCl (tyM cI cZ) s := hKL.sub [0, 3] rfl
  have hA : ∀ q : Nat, s.heap.size ≤ q → (fun q : Nat => s.heap.size ≤ q) q := fun _ h9 => h9
  have hbA : ¬ (fun q : Nat => s.heap.size ≤ q) bS := Nat.not_le.mpr hbl
  obtain ⟨hNN, hqA, hqB⟩ := hIN N u μ hi
  obtain ⟨y1, ey1⟩ : ∃ y : Int32, y = xs (x3 + 1).toNatClampNeg := ⟨_, rfl⟩
  obtain ⟨r, u2, μ2, hf1, hf2, hi2⟩ := hI N u μ y1 hi
  refine lv_aload_n (pc := 378) hx hb dL_law_378 rfl (lv_at hl 1 rfl) ?_
  refine lv_aload_n (pc := 379) hx hb dL_law_379 rfl (lv_at hl 0 rfl) ?_
  refine lv_iload_n (pc := 380) hx hb dL_law_380 rfl (lv_at hl 3 rfl) ?_
  refine lv_iconst (pc := 381) (v := 1) hx hb dL_law_381 (by decide) ?_
  refine lv_iadd (pc := 382) hx hb dL_law_382 ?_
  refine va_sld (pc := 383) hx hb hX hbl hbA h.2.2 hin1 dL_law_383 ?_
  refine rTop ey1 ?_
  refine lLi (pc := 384) (n := 1) hx hb hml hown hts hK hN (c_X11_drink hNN hf1) (gdV ml_L_33 im_X11_drink se_X11_drink in_X11 co_X11_drink) rfl (by decide +kernel) rfl (Nat.le_of_ble_eq_true rfl) (Nat.le_of_ble_eq_true rfl) h hA hl.1 ⟨show 100 + 16 * j ≤ 600000 by omega, show 2000 + 119 * j ≤ 7302250 by omega⟩ (Nat.lt_of_lt_of_le (by decide) hNN) rfl rfl rfl (Nat.le_of_ble_eq_true rfl) dL_law_384 (fun H locs h => ?_)
  refine lv_aload_n (pc := 387) hx hb dL_law_387 rfl (lv_at hl 2 rfl) ?_
  refine lv_aload_n (pc := 388) hx hb dL_law_388 rfl (lv_at hl 0 rfl) ?_
  refine lv_iload_n (pc := 389) hx hb dL_law_389 rfl (lv_at hl 3 rfl) ?_
  refine lv_iconst (pc := 390) (v := 1) hx hb dL_law_390 (by decide) ?_
  refine lv_iadd (pc := 391) hx hb dL_law_391 ?_
  refine va_sld (pc := 392) hx hb hX hbl hbA h.2.2 hin1 dL_law_392 ?_
  refine rTop ey1 ?_
  refine lRi (pc := 393) (n := 1) (rest := [.int r]) hx hb hml hown hts hKm hN (c_X12_drink hf2) (gdV ml_L_36 im_X12_drink se_X12_drink in_X12 co_X12_drink) rfl (by decide +kernel) rfl (Nat.le_of_ble_eq_true rfl) (Nat.le_of_ble_eq_true rfl) h hA hl.1 ⟨show 100 + 16 * j ≤ 600000 by omega, show 2000 + 119 * j ≤ 7302250 by omega⟩ (by decide) rfl rfl rfl (Nat.le_of_ble_eq_true rfl) dL_law_393 (fun H locs h => ?_)
  refine lv_icmp_eq (pc := 396) (tgt := 1302) hx hb dL_law_396 (by decide) (fun _ => ?_) (fun h9 => absurd rfl h9)
  refine W.widen (k := 100 + 16 * (j + 1)) (n := 2000 + 119 * (j + 1)) (by omega) (by omega) ?_
  exact hnext _ _ _ _ hi2 _ _ _ h hl
set_option maxRecDepth 100000 in
set_option maxHeartbeats 4000000 in
theorem law_set {p : Program} {l : Launch} {e : Env} {s : State} {m : MethodId} {below : List Frame} {meth : Method} {c : Code} {D : va_G} {cI cJ cR cZ : ClassId} {bS L : Nat} {xs : Nat → Int32} {tF tL tM : Nat} {I : Nat → St → St → Prop} {Q : State → Prop} (X0 : LCX p s m c D cI cJ cR cZ bS L xs tF tL tM) (hIN : Sp_N I) (hI : Sp_set I) {j : Nat} (hj : j ≤ 64) {x3 : Int32} (hin1 : vp_in (x3 + 1) L) (hin2 : vp_in (x3 + 2) L) (hin3 : vp_in (x3 + 3) L) (hin4 : vp_in (x3 + 4) L) (hin5 : vp_in (x3 + 5) L) {b : Nat → Nat} (hnext : ∀ (N : Nat) (a : Nat → Nat) (u μ : St), I N u μ → ∀ (H : Heap) (locs : List Loc) (ls : Array Slot), Hh D (fun q => s.heap.size ≤ q) (wX N a (EB a cI cJ cR) u ++ wX 21 b (EM b cI cZ) μ) s.heap H locs → lv_has ls 4 [(0, .ref bS), (1, .ref (a 0)), (2, .ref (b 0)), (3, .int x3)] → W p l e room_1 s m #[Value.ref bS] below meth c H locs (100 + 16 * (j + 1)) (2000 + 119 * (j + 1)) Q (F0 m 1302 ls [])) {N : Nat} {a : Nat → Nat} {u μ : St} (hi : I N u μ) {H : Heap} {locs : List Loc} {ls : Array Slot} (h : Hh D (fun q => s.heap.size ≤ q) (wX N a (EB a cI cJ cR) u ++ wX 21 b (EM b cI cZ) μ) s.heap H locs) (hl : lv_has ls 4 [(0, .ref bS), (1, .ref (a 0)), (2, .ref (b 0)), (3, .int x3)]) : W p l e room_1 s m #[Value.ref bS] below meth c H locs (100 + 16 * j) (2000 + 119 * j) Q (F0 m 401 ls []) := by
  obtain ⟨hx, hb, hml, hown, hts, hKL, hN, hW0, hZ, hX, hbl⟩ := X0
  have hK : va_K D vwCl (tyB cI cJ cR) s := hKL.sub [0, 1, 2] rfl
  have hKm : va_K D vwCl (tyM cI cZ) s := hKL.sub [0, 3] rfl
  have hA : ∀ q : Nat, s.heap.size ≤ q → (fun q : Nat => s.heap.size ≤ q) q := fun _ h9 => h9
  have hbA : ¬ (fun q : Nat => s.heap.size ≤ q) bS := Nat.not_le.mpr hbl
  obtain ⟨hNN, hqA, hqB⟩ := hIN N u μ hi
  obtain ⟨y1, ey1⟩ : ∃ y : Int32, y = xs (x3 + 1).toNatClampNeg := ⟨_, rfl⟩
  obtain ⟨y2, ey2⟩ : ∃ y : Int32, y = xs (x3 + 2).toNatClampNeg := ⟨_, rfl⟩
  obtain ⟨r, u2, μ2, hf1, hf2, hi2⟩ := hI N u μ y1 y2 hi
  refine lv_aload_n (pc := 401) hx hb dL_law_401 rfl (lv_at hl 1 rfl) ?_
  refine lv_aload_n (pc := 402) hx hb dL_law_402 rfl (lv_at hl 0 rfl) ?_
  refine lv_iload_n (pc := 403) hx hb dL_law_403 rfl (lv_at hl 3 rfl) ?_
  refine lv_iconst (pc := 404) (v := 1) hx hb dL_law_404 (by decide) ?_
  refine lv_iadd (pc := 405) hx hb dL_law_405 ?_
  refine va_sld (pc := 406) hx hb hX hbl hbA h.2.2 hin1 dL_law_406 ?_
  refine rTop ey1 ?_
  refine lv_aload_n (pc := 407) hx hb dL_law_407 rfl (lv_at hl 0 rfl) ?_
  refine lv_iload_n (pc := 408) hx hb dL_law_408 rfl (lv_at hl 3 rfl) ?_
  refine lv_iconst (pc := 409) (v := 2) hx hb dL_law_409 (by decide) ?_
  refine lv_iadd (pc := 410) hx hb dL_law_410 ?_
  refine va_sld (pc := 411) hx hb hX hbl hbA h.2.2 hin2 dL_law_411 ?_
  refine rTop ey2 ?_
  refine lLz (pc := 412) (n := 2) hx hb hml hown hts hK hN (c_X11_set (tF := tF) (tL := tL) (tM := tM) hNN hf1) (gdV ml_L_37 im_X11_set se_X11_set in_X11 co_X11_set) rfl (by decide +kernel) rfl (Nat.le_of_ble_eq_true rfl) (Nat.le_of_ble_eq_true rfl) h hA hZ hl.1 ⟨show 100 + 16 * j ≤ 600000 by omega, show 2000 + 119 * j ≤ 7302250 by omega⟩ (Nat.lt_of_lt_of_le (by decide) hNN) rfl rfl rfl (Nat.le_of_ble_eq_true rfl) dL_law_412 (fun H locs h => ?_)
  refine lv_aload_n (pc := 415) hx hb dL_law_415 rfl (lv_at hl 2 rfl) ?_
  refine lv_aload_n (pc := 416) hx hb dL_law_416 rfl (lv_at hl 0 rfl) ?_
  refine lv_iload_n (pc := 417) hx hb dL_law_417 rfl (lv_at hl 3 rfl) ?_
  refine lv_iconst (pc := 418) (v := 1) hx hb dL_law_418 (by decide) ?_
  refine lv_iadd (pc := 419) hx hb dL_law_419 ?_
  refine va_sld (pc := 420) hx hb hX hbl hbA h.2.2 hin1 dL_law_420 ?_
  refine rTop ey1 ?_
  refine lv_aload_n (pc := 421) hx hb dL_law_421 rfl (lv_at hl 0 rfl) ?_
  refine lv_iload_n (pc := 422) hx hb dL_law_422 rfl (lv_at hl 3 rfl) ?_
  refine lv_iconst (pc := 423) (v := 2) hx hb dL_law_423 (by decide) ?_
  refine lv_iadd (pc := 424) hx hb dL_law_424 ?_
  refine va_sld (pc := 425) hx hb hX hbl hbA h.2.2 hin2 dL_law_425 ?_
  refine rTop ey2 ?_
  refine lRi (pc := 426) (n := 2) (rest := [.int r]) hx hb hml hown hts hKm hN (c_X12_set hf2) (gdV ml_L_41 im_X12_set se_X12_set in_X12 co_X12_set) rfl (by decide +kernel) rfl (Nat.le_of_ble_eq_true rfl) (Nat.le_of_ble_eq_true rfl) h hA hl.1 ⟨show 100 + 16 * j ≤ 600000 by omega, show 2000 + 119 * j ≤ 7302250 by omega⟩ (by decide) rfl rfl rfl (Nat.le_of_ble_eq_true rfl) dL_law_426 (fun H locs h => ?_)
  refine lv_icmp_eq (pc := 429) (tgt := 1302) hx hb dL_law_429 (by decide) (fun _ => ?_) (fun h9 => absurd rfl h9)
  refine W.widen (k := 100 + 16 * (j + 1)) (n := 2000 + 119 * (j + 1)) (by omega) (by omega) ?_
  exact hnext _ _ _ _ hi2 _ _ _ h hl
set_option maxRecDepth 100000 in
set_option maxHeartbeats 4000000 in
theorem law_say {p : Program} {l : Launch} {e : Env} {s : State} {m : MethodId} {below : List Frame} {meth : Method} {c : Code} {D : va_G} {cI cJ cR cZ : ClassId} {bS L : Nat} {xs : Nat → Int32} {tF tL tM : Nat} {I : Nat → St → St → Prop} {Q : State → Prop} (X0 : LCX p s m c D cI cJ cR cZ bS L xs tF tL tM) (hIN : Sp_N I) (hI : Sp_say I) {j : Nat} (hj : j ≤ 64) {x3 : Int32} (hin1 : vp_in (x3 + 1) L) (hin2 : vp_in (x3 + 2) L) (hin3 : vp_in (x3 + 3) L) (hin4 : vp_in (x3 + 4) L) (hin5 : vp_in (x3 + 5) L) {b : Nat → Nat} (hnext : ∀ (N : Nat) (a : Nat → Nat) (u μ : St), I N u μ → ∀ (H : Heap) (locs : List Loc) (ls : Array Slot), Hh D (fun q => s.heap.size ≤ q) (wX N a (EB a cI cJ cR) u ++ wX 21 b (EM b cI cZ) μ) s.heap H locs → lv_has ls 4 [(0, .ref bS), (1, .ref (a 0)), (2, .ref (b 0)), (3, .int x3)] → W p l e room_1 s m #[Value.ref bS] below meth c H locs (100 + 16 * (j + 1)) (2000 + 119 * (j + 1)) Q (F0 m 1302 ls [])) {N : Nat} {a : Nat → Nat} {u μ : St} (hi : I N u μ) {H : Heap} {locs : List Loc} {ls : Array Slot} (h : Hh D (fun q => s.heap.size ≤ q) (wX N a (EB a cI cJ cR) u ++ wX 21 b (EM b cI cZ) μ) s.heap H locs) (hl : lv_has ls 4 [(0, .ref bS), (1, .ref (a 0)), (2, .ref (b 0)), (3, .int x3)]) : W p l e room_1 s m #[Value.ref bS] below meth c H locs (100 + 16 * j) (2000 + 119 * j) Q (F0 m 434 ls []) := by
  obtain ⟨hx, hb, hml, hown, hts, hKL, hN, hW0, hZ, hX, hbl⟩ := X0
  have hK : va_K D vwCl (tyB cI cJ cR) s := hKL.sub [0, 1, 2] rfl
  have hKm : va_K D vwCl (tyM cI cZ) s := hKL.sub [0, 3] rfl
  have hA : ∀ q : Nat, s.heap.size ≤ q → (fun q : Nat => s.heap.size ≤ q) q := fun _ h9 => h9
  have hbA : ¬ (fun q : Nat => s.heap.size ≤ q) bS := Nat.not_le.mpr hbl
  obtain ⟨hNN, hqA, hqB⟩ := hIN N u μ hi
  obtain ⟨y1, ey1⟩ : ∃ y : Int32, y = xs (x3 + 1).toNatClampNeg := ⟨_, rfl⟩
  obtain ⟨r, u2, μ2, hf1, hf2, hi2⟩ := hI N u μ y1 hi
  refine lv_aload_n (pc := 434) hx hb dL_law_434 rfl (lv_at hl 1 rfl) ?_
  refine lv_aload_n (pc := 435) hx hb dL_law_435 rfl (lv_at hl 0 rfl) ?_
  refine lv_iload_n (pc := 436) hx hb dL_law_436 rfl (lv_at hl 3 rfl) ?_
  refine lv_iconst (pc := 437) (v := 1) hx hb dL_law_437 (by decide) ?_
  refine lv_iadd (pc := 438) hx hb dL_law_438 ?_
  refine va_sld (pc := 439) hx hb hX hbl hbA h.2.2 hin1 dL_law_439 ?_
  refine rTop ey1 ?_
  refine lLi (pc := 440) (n := 1) hx hb hml hown hts hK hN (c_X11_say hNN hf1) (gdV ml_L_42 im_X11_say se_X11_say in_X11 co_X11_say) rfl (by decide +kernel) rfl (Nat.le_of_ble_eq_true rfl) (Nat.le_of_ble_eq_true rfl) h hA hl.1 ⟨show 100 + 16 * j ≤ 600000 by omega, show 2000 + 119 * j ≤ 7302250 by omega⟩ (Nat.lt_of_lt_of_le (by decide) hNN) rfl rfl rfl (Nat.le_of_ble_eq_true rfl) dL_law_440 (fun H locs h => ?_)
  refine lv_aload_n (pc := 443) hx hb dL_law_443 rfl (lv_at hl 2 rfl) ?_
  refine lv_aload_n (pc := 444) hx hb dL_law_444 rfl (lv_at hl 0 rfl) ?_
  refine lv_iload_n (pc := 445) hx hb dL_law_445 rfl (lv_at hl 3 rfl) ?_
  refine lv_iconst (pc := 446) (v := 1) hx hb dL_law_446 (by decide) ?_
  refine lv_iadd (pc := 447) hx hb dL_law_447 ?_
  refine va_sld (pc := 448) hx hb hX hbl hbA h.2.2 hin1 dL_law_448 ?_
  refine rTop ey1 ?_
  refine lRi (pc := 449) (n := 1) (rest := [.int r]) hx hb hml hown hts hKm hN (c_X12_say hf2) (gdV ml_L_45 im_X12_say se_X12_say in_X12 co_X12_say) rfl (by decide +kernel) rfl (Nat.le_of_ble_eq_true rfl) (Nat.le_of_ble_eq_true rfl) h hA hl.1 ⟨show 100 + 16 * j ≤ 600000 by omega, show 2000 + 119 * j ≤ 7302250 by omega⟩ (by decide) rfl rfl rfl (Nat.le_of_ble_eq_true rfl) dL_law_449 (fun H locs h => ?_)
  refine lv_icmp_eq (pc := 452) (tgt := 1302) hx hb dL_law_452 (by decide) (fun _ => ?_) (fun h9 => absurd rfl h9)
  refine W.widen (k := 100 + 16 * (j + 1)) (n := 2000 + 119 * (j + 1)) (by omega) (by omega) ?_
  exact hnext _ _ _ _ hi2 _ _ _ h hl
set_option maxRecDepth 100000 in
set_option maxHeartbeats 4000000 in
theorem law_wipe {p : Program} {l : Launch} {e : Env} {s : State} {m : MethodId} {below : List Frame} {meth : Method} {c : Code} {D : va_G} {cI cJ cR cZ : ClassId} {bS L : Nat} {xs : Nat → Int32} {tF tL tM : Nat} {I : Nat → St → St → Prop} {Q : State → Prop} (X0 : LCX p s m c D cI cJ cR cZ bS L xs tF tL tM) (hIN : Sp_N I) (hI : Sp_wipe I) {j : Nat} (hj : j ≤ 64) {x3 : Int32} (hin1 : vp_in (x3 + 1) L) (hin2 : vp_in (x3 + 2) L) (hin3 : vp_in (x3 + 3) L) (hin4 : vp_in (x3 + 4) L) (hin5 : vp_in (x3 + 5) L) {b : Nat → Nat} (hnext : ∀ (N : Nat) (a : Nat → Nat) (u μ : St), I N u μ → ∀ (H : Heap) (locs : List Loc) (ls : Array Slot), Hh D (fun q => s.heap.size ≤ q) (wX N a (EB a cI cJ cR) u ++ wX 21 b (EM b cI cZ) μ) s.heap H locs → lv_has ls 4 [(0, .ref bS), (1, .ref (a 0)), (2, .ref (b 0)), (3, .int x3)] → W p l e room_1 s m #[Value.ref bS] below meth c H locs (100 + 16 * (j + 1)) (2000 + 119 * (j + 1)) Q (F0 m 1302 ls [])) {N : Nat} {a : Nat → Nat} {u μ : St} (hi : I N u μ) {H : Heap} {locs : List Loc} {ls : Array Slot} (h : Hh D (fun q => s.heap.size ≤ q) (wX N a (EB a cI cJ cR) u ++ wX 21 b (EM b cI cZ) μ) s.heap H locs) (hl : lv_has ls 4 [(0, .ref bS), (1, .ref (a 0)), (2, .ref (b 0)), (3, .int x3)]) : W p l e room_1 s m #[Value.ref bS] below meth c H locs (100 + 16 * j) (2000 + 119 * j) Q (F0 m 457 ls []) := by
  obtain ⟨hx, hb, hml, hown, hts, hKL, hN, hW0, hZ, hX, hbl⟩ := X0
  have hK : va_K D vwCl (tyB cI cJ cR) s := hKL.sub [0, 1, 2] rfl
  have hKm : va_K D vwCl (tyM cI cZ) s := hKL.sub [0, 3] rfl
  have hA : ∀ q : Nat, s.heap.size ≤ q → (fun q : Nat => s.heap.size ≤ q) q := fun _ h9 => h9
  have hbA : ¬ (fun q : Nat => s.heap.size ≤ q) bS := Nat.not_le.mpr hbl
  obtain ⟨hNN, hqA, hqB⟩ := hIN N u μ hi
  obtain ⟨r, u2, μ2, hf1, hf2, hi2⟩ := hI N u μ hi
  refine lv_aload_n (pc := 457) hx hb dL_law_457 rfl (lv_at hl 1 rfl) ?_
  refine lLi (pc := 458) (n := 0) hx hb hml hown hts hK hN (c_X11_wipe hNN hf1) (gdV ml_L_46 im_X11_wipe se_X11_wipe in_X11 co_X11_wipe) rfl (by decide +kernel) rfl (Nat.le_of_ble_eq_true rfl) (Nat.le_of_ble_eq_true rfl) h hA hl.1 ⟨show 100 + 16 * j ≤ 600000 by omega, show 2000 + 119 * j ≤ 7302250 by omega⟩ (Nat.lt_of_lt_of_le (by decide) hNN) rfl rfl rfl (Nat.le_of_ble_eq_true rfl) dL_law_458 (fun H locs h => ?_)
  refine lv_aload_n (pc := 461) hx hb dL_law_461 rfl (lv_at hl 2 rfl) ?_
  refine lRi (pc := 462) (n := 0) (rest := [.int r]) hx hb hml hown hts hKm hN (c_X12_wipe hf2) (gdV ml_L_50 im_X12_wipe se_X12_wipe in_X12 co_X12_wipe) rfl (by decide +kernel) rfl (Nat.le_of_ble_eq_true rfl) (Nat.le_of_ble_eq_true rfl) h hA hl.1 ⟨show 100 + 16 * j ≤ 600000 by omega, show 2000 + 119 * j ≤ 7302250 by omega⟩ (by decide) rfl rfl rfl (Nat.le_of_ble_eq_true rfl) dL_law_462 (fun H locs h => ?_)
  refine lv_icmp_eq (pc := 465) (tgt := 1302) hx hb dL_law_465 (by decide) (fun _ => ?_) (fun h9 => absurd rfl h9)
  refine W.widen (k := 100 + 16 * (j + 1)) (n := 2000 + 119 * (j + 1)) (by omega) (by omega) ?_
  exact hnext _ _ _ _ hi2 _ _ _ h hl
set_option maxRecDepth 100000 in
set_option maxHeartbeats 4000000 in
theorem law_fault {p : Program} {l : Launch} {e : Env} {s : State} {m : MethodId} {below : List Frame} {meth : Method} {c : Code} {D : va_G} {cI cJ cR cZ : ClassId} {bS L : Nat} {xs : Nat → Int32} {tF tL tM : Nat} {I : Nat → St → St → Prop} {Q : State → Prop} (X0 : LCX p s m c D cI cJ cR cZ bS L xs tF tL tM) (hIN : Sp_N I) (hI : Sp_fault I) {j : Nat} (hj : j ≤ 64) {x3 : Int32} (hin1 : vp_in (x3 + 1) L) (hin2 : vp_in (x3 + 2) L) (hin3 : vp_in (x3 + 3) L) (hin4 : vp_in (x3 + 4) L) (hin5 : vp_in (x3 + 5) L) {b : Nat → Nat} (hnext : ∀ (N : Nat) (a : Nat → Nat) (u μ : St), I N u μ → ∀ (H : Heap) (locs : List Loc) (ls : Array Slot), Hh D (fun q => s.heap.size ≤ q) (wX N a (EB a cI cJ cR) u ++ wX 21 b (EM b cI cZ) μ) s.heap H locs → lv_has ls 4 [(0, .ref bS), (1, .ref (a 0)), (2, .ref (b 0)), (3, .int x3)] → W p l e room_1 s m #[Value.ref bS] below meth c H locs (100 + 16 * (j + 1)) (2000 + 119 * (j + 1)) Q (F0 m 1302 ls [])) {N : Nat} {a : Nat → Nat} {u μ : St} (hi : I N u μ) {H : Heap} {locs : List Loc} {ls : Array Slot} (h : Hh D (fun q => s.heap.size ≤ q) (wX N a (EB a cI cJ cR) u ++ wX 21 b (EM b cI cZ) μ) s.heap H locs) (hl : lv_has ls 4 [(0, .ref bS), (1, .ref (a 0)), (2, .ref (b 0)), (3, .int x3)]) : W p l e room_1 s m #[Value.ref bS] below meth c H locs (100 + 16 * j) (2000 + 119 * j) Q (F0 m 470 ls []) := by
  obtain ⟨hx, hb, hml, hown, hts, hKL, hN, hW0, hZ, hX, hbl⟩ := X0
  have hK : va_K D vwCl (tyB cI cJ cR) s := hKL.sub [0, 1, 2] rfl
  have hKm : va_K D vwCl (tyM cI cZ) s := hKL.sub [0, 3] rfl
  have hA : ∀ q : Nat, s.heap.size ≤ q → (fun q : Nat => s.heap.size ≤ q) q := fun _ h9 => h9
  have hbA : ¬ (fun q : Nat => s.heap.size ≤ q) bS := Nat.not_le.mpr hbl
  obtain ⟨hNN, hqA, hqB⟩ := hIN N u μ hi
  obtain ⟨y1, ey1⟩ : ∃ y : Int32, y = xs (x3 + 1).toNatClampNeg := ⟨_, rfl⟩
  obtain ⟨r, hf1, hf2, hi2⟩ := hI N u μ y1 hi
  refine lv_aload_n (pc := 470) hx hb dL_law_470 rfl (lv_at hl 1 rfl) ?_
  refine lv_aload_n (pc := 471) hx hb dL_law_471 rfl (lv_at hl 0 rfl) ?_
  refine lv_iload_n (pc := 472) hx hb dL_law_472 rfl (lv_at hl 3 rfl) ?_
  refine lv_iconst (pc := 473) (v := 1) hx hb dL_law_473 (by decide) ?_
  refine lv_iadd (pc := 474) hx hb dL_law_474 ?_
  refine va_sld (pc := 475) hx hb hX hbl hbA h.2.2 hin1 dL_law_475 ?_
  refine rTop ey1 ?_
  refine lLi (pc := 476) (n := 1) hx hb hml hown hts hK hN (c_X11_fault hNN hf1) (gdV ml_L_51 im_X11_fault se_X11_fault in_X11 co_X11_fault) rfl (by decide +kernel) rfl (Nat.le_of_ble_eq_true rfl) (Nat.le_of_ble_eq_true rfl) h hA hl.1 ⟨show 100 + 16 * j ≤ 600000 by omega, show 2000 + 119 * j ≤ 7302250 by omega⟩ (Nat.lt_of_lt_of_le (by decide) hNN) rfl rfl rfl (Nat.le_of_ble_eq_true rfl) dL_law_476 (fun H locs h => ?_)
  refine lv_aload_n (pc := 479) hx hb dL_law_479 rfl (lv_at hl 2 rfl) ?_
  refine lv_aload_n (pc := 480) hx hb dL_law_480 rfl (lv_at hl 0 rfl) ?_
  refine lv_iload_n (pc := 481) hx hb dL_law_481 rfl (lv_at hl 3 rfl) ?_
  refine lv_iconst (pc := 482) (v := 1) hx hb dL_law_482 (by decide) ?_
  refine lv_iadd (pc := 483) hx hb dL_law_483 ?_
  refine va_sld (pc := 484) hx hb hX hbl hbA h.2.2 hin1 dL_law_484 ?_
  refine rTop ey1 ?_
  refine lRi (pc := 485) (n := 1) (rest := [.int r]) hx hb hml hown hts hKm hN (c_X12_fault hf2) (gdV ml_L_54 im_X12_fault se_X12_fault in_X12 co_X12_fault) rfl (by decide +kernel) rfl (Nat.le_of_ble_eq_true rfl) (Nat.le_of_ble_eq_true rfl) h hA hl.1 ⟨show 100 + 16 * j ≤ 600000 by omega, show 2000 + 119 * j ≤ 7302250 by omega⟩ (by decide) rfl rfl rfl (Nat.le_of_ble_eq_true rfl) dL_law_485 (fun H locs h => ?_)
  refine lv_icmp_eq (pc := 488) (tgt := 1302) hx hb dL_law_488 (by decide) (fun _ => ?_) (fun h9 => absurd rfl h9)
  refine W.widen (k := 100 + 16 * (j + 1)) (n := 2000 + 119 * (j + 1)) (by omega) (by omega) ?_
  exact hnext _ _ _ _ hi2 _ _ _ h hl
set_option maxRecDepth 100000 in
set_option maxHeartbeats 4000000 in
theorem law_table {p : Program} {l : Launch} {e : Env} {s : State} {m : MethodId} {below : List Frame} {meth : Method} {c : Code} {D : va_G} {cI cJ cR cZ : ClassId} {bS L : Nat} {xs : Nat → Int32} {tF tL tM : Nat} {I : Nat → St → St → Prop} {Q : State → Prop} (X0 : LCX p s m c D cI cJ cR cZ bS L xs tF tL tM) (hIN : Sp_N I) (hI : Sp_table I) {j : Nat} (hj : j ≤ 64) {x3 : Int32} (hin1 : vp_in (x3 + 1) L) (hin2 : vp_in (x3 + 2) L) (hin3 : vp_in (x3 + 3) L) (hin4 : vp_in (x3 + 4) L) (hin5 : vp_in (x3 + 5) L) {b : Nat → Nat} (hnext : ∀ (N : Nat) (a : Nat → Nat) (u μ : St), I N u μ → ∀ (H : Heap) (locs : List Loc) (ls : Array Slot), Hh D (fun q => s.heap.size ≤ q) (wX N a (EB a cI cJ cR) u ++ wX 21 b (EM b cI cZ) μ) s.heap H locs → lv_has ls 4 [(0, .ref bS), (1, .ref (a 0)), (2, .ref (b 0)), (3, .int x3)] → W p l e room_1 s m #[Value.ref bS] below meth c H locs (100 + 16 * (j + 1)) (2000 + 119 * (j + 1)) Q (F0 m 1302 ls [])) {N : Nat} {a : Nat → Nat} {u μ : St} (hi : I N u μ) {H : Heap} {locs : List Loc} {ls : Array Slot} (h : Hh D (fun q => s.heap.size ≤ q) (wX N a (EB a cI cJ cR) u ++ wX 21 b (EM b cI cZ) μ) s.heap H locs) (hl : lv_has ls 4 [(0, .ref bS), (1, .ref (a 0)), (2, .ref (b 0)), (3, .int x3)]) : W p l e room_1 s m #[Value.ref bS] below meth c H locs (100 + 16 * j) (2000 + 119 * j) Q (F0 m 493 ls []) := by
  obtain ⟨hx, hb, hml, hown, hts, hKL, hN, hW0, hZ, hX, hbl⟩ := X0
  have hK : va_K D vwCl (tyB cI cJ cR) s := hKL.sub [0, 1, 2] rfl
  have hKm : va_K D vwCl (tyM cI cZ) s := hKL.sub [0, 3] rfl
  have hA : ∀ q : Nat, s.heap.size ≤ q → (fun q : Nat => s.heap.size ≤ q) q := fun _ h9 => h9
  have hbA : ¬ (fun q : Nat => s.heap.size ≤ q) bS := Nat.not_le.mpr hbl
  obtain ⟨hNN, hqA, hqB⟩ := hIN N u μ hi
  obtain ⟨r, u2, μ2, hf1, hf2, hi2⟩ := hI N u μ hi
  refine lv_aload_n (pc := 493) hx hb dL_law_493 rfl (lv_at hl 1 rfl) ?_
  refine lLi (pc := 494) (n := 0) hx hb hml hown hts hK hN (c_X11_table hNN hf1) (gdV ml_L_55 im_X11_table se_X11_table in_X11 co_X11_table) rfl (by decide +kernel) rfl (Nat.le_of_ble_eq_true rfl) (Nat.le_of_ble_eq_true rfl) h hA hl.1 ⟨show 100 + 16 * j ≤ 600000 by omega, show 2000 + 119 * j ≤ 7302250 by omega⟩ (Nat.lt_of_lt_of_le (by decide) hNN) rfl rfl rfl (Nat.le_of_ble_eq_true rfl) dL_law_494 (fun H locs h => ?_)
  refine lv_aload_n (pc := 497) hx hb dL_law_497 rfl (lv_at hl 2 rfl) ?_
  refine lRi (pc := 498) (n := 0) (rest := [.int r]) hx hb hml hown hts hKm hN (c_X12_table hf2) (gdV ml_L_58 im_X12_table se_X12_table in_X12 co_X12_table) rfl (by decide +kernel) rfl (Nat.le_of_ble_eq_true rfl) (Nat.le_of_ble_eq_true rfl) h hA hl.1 ⟨show 100 + 16 * j ≤ 600000 by omega, show 2000 + 119 * j ≤ 7302250 by omega⟩ (by decide) rfl rfl rfl (Nat.le_of_ble_eq_true rfl) dL_law_498 (fun H locs h => ?_)
  refine lv_icmp_eq (pc := 501) (tgt := 1302) hx hb dL_law_501 (by decide) (fun _ => ?_) (fun h9 => absurd rfl h9)
  refine W.widen (k := 100 + 16 * (j + 1)) (n := 2000 + 119 * (j + 1)) (by omega) (by omega) ?_
  exact hnext _ _ _ _ hi2 _ _ _ h hl
set_option maxRecDepth 100000 in
set_option maxHeartbeats 4000000 in
theorem law_level {p : Program} {l : Launch} {e : Env} {s : State} {m : MethodId} {below : List Frame} {meth : Method} {c : Code} {D : va_G} {cI cJ cR cZ : ClassId} {bS L : Nat} {xs : Nat → Int32} {tF tL tM : Nat} {I : Nat → St → St → Prop} {Q : State → Prop} (X0 : LCX p s m c D cI cJ cR cZ bS L xs tF tL tM) (hIN : Sp_N I) (hI : Sp_level I) {j : Nat} (hj : j ≤ 64) {x3 : Int32} (hin1 : vp_in (x3 + 1) L) (hin2 : vp_in (x3 + 2) L) (hin3 : vp_in (x3 + 3) L) (hin4 : vp_in (x3 + 4) L) (hin5 : vp_in (x3 + 5) L) {b : Nat → Nat} (hnext : ∀ (N : Nat) (a : Nat → Nat) (u μ : St), I N u μ → ∀ (H : Heap) (locs : List Loc) (ls : Array Slot), Hh D (fun q => s.heap.size ≤ q) (wX N a (EB a cI cJ cR) u ++ wX 21 b (EM b cI cZ) μ) s.heap H locs → lv_has ls 4 [(0, .ref bS), (1, .ref (a 0)), (2, .ref (b 0)), (3, .int x3)] → W p l e room_1 s m #[Value.ref bS] below meth c H locs (100 + 16 * (j + 1)) (2000 + 119 * (j + 1)) Q (F0 m 1302 ls [])) {N : Nat} {a : Nat → Nat} {u μ : St} (hi : I N u μ) {H : Heap} {locs : List Loc} {ls : Array Slot} (h : Hh D (fun q => s.heap.size ≤ q) (wX N a (EB a cI cJ cR) u ++ wX 21 b (EM b cI cZ) μ) s.heap H locs) (hl : lv_has ls 4 [(0, .ref bS), (1, .ref (a 0)), (2, .ref (b 0)), (3, .int x3)]) : W p l e room_1 s m #[Value.ref bS] below meth c H locs (100 + 16 * j) (2000 + 119 * j) Q (F0 m 506 ls []) := by
  obtain ⟨hx, hb, hml, hown, hts, hKL, hN, hW0, hZ, hX, hbl⟩ := X0
  have hK : va_K D vwCl (tyB cI cJ cR) s := hKL.sub [0, 1, 2] rfl
  have hKm : va_K D vwCl (tyM cI cZ) s := hKL.sub [0, 3] rfl
  have hA : ∀ q : Nat, s.heap.size ≤ q → (fun q : Nat => s.heap.size ≤ q) q := fun _ h9 => h9
  have hbA : ¬ (fun q : Nat => s.heap.size ≤ q) bS := Nat.not_le.mpr hbl
  obtain ⟨hNN, hqA, hqB⟩ := hIN N u μ hi
  obtain ⟨y1, ey1⟩ : ∃ y : Int32, y = xs (x3 + 1).toNatClampNeg := ⟨_, rfl⟩
  obtain ⟨r, u2, hf1, hf2, hi2⟩ := hI N u μ y1 hi
  refine lv_aload_n (pc := 506) hx hb dL_law_506 rfl (lv_at hl 1 rfl) ?_
  refine lv_aload_n (pc := 507) hx hb dL_law_507 rfl (lv_at hl 0 rfl) ?_
  refine lv_iload_n (pc := 508) hx hb dL_law_508 rfl (lv_at hl 3 rfl) ?_
  refine lv_iconst (pc := 509) (v := 1) hx hb dL_law_509 (by decide) ?_
  refine lv_iadd (pc := 510) hx hb dL_law_510 ?_
  refine va_sld (pc := 511) hx hb hX hbl hbA h.2.2 hin1 dL_law_511 ?_
  refine rTop ey1 ?_
  refine lLi (pc := 512) (n := 1) hx hb hml hown hts hK hN (c_X11_level hNN hf1) (gdV ml_L_59 im_X11_level se_X11_level in_X11 co_X11_level) rfl (by decide +kernel) rfl (Nat.le_of_ble_eq_true rfl) (Nat.le_of_ble_eq_true rfl) h hA hl.1 ⟨show 100 + 16 * j ≤ 600000 by omega, show 2000 + 119 * j ≤ 7302250 by omega⟩ (Nat.lt_of_lt_of_le (by decide) hNN) rfl rfl rfl (Nat.le_of_ble_eq_true rfl) dL_law_512 (fun H locs h => ?_)
  refine lv_aload_n (pc := 515) hx hb dL_law_515 rfl (lv_at hl 2 rfl) ?_
  refine lv_aload_n (pc := 516) hx hb dL_law_516 rfl (lv_at hl 0 rfl) ?_
  refine lv_iload_n (pc := 517) hx hb dL_law_517 rfl (lv_at hl 3 rfl) ?_
  refine lv_iconst (pc := 518) (v := 1) hx hb dL_law_518 (by decide) ?_
  refine lv_iadd (pc := 519) hx hb dL_law_519 ?_
  refine va_sld (pc := 520) hx hb hX hbl hbA h.2.2 hin1 dL_law_520 ?_
  refine rTop ey1 ?_
  refine lRi (pc := 521) (n := 1) (rest := [.int r]) hx hb hml hown hts hKm hN (c_X12_level hf2) (gdV ml_L_62 im_X12_level se_X12_level in_X12 co_X12_level) rfl (by decide +kernel) rfl (Nat.le_of_ble_eq_true rfl) (Nat.le_of_ble_eq_true rfl) h hA hl.1 ⟨show 100 + 16 * j ≤ 600000 by omega, show 2000 + 119 * j ≤ 7302250 by omega⟩ (by decide) rfl rfl rfl (Nat.le_of_ble_eq_true rfl) dL_law_521 (fun H locs h => ?_)
  refine lv_icmp_eq (pc := 524) (tgt := 1302) hx hb dL_law_524 (by decide) (fun _ => ?_) (fun h9 => absurd rfl h9)
  refine W.widen (k := 100 + 16 * (j + 1)) (n := 2000 + 119 * (j + 1)) (by omega) (by omega) ?_
  exact hnext _ _ _ _ hi2 _ _ _ h hl
set_option maxRecDepth 100000 in
set_option maxHeartbeats 4000000 in
theorem law_breath {p : Program} {l : Launch} {e : Env} {s : State} {m : MethodId} {below : List Frame} {meth : Method} {c : Code} {D : va_G} {cI cJ cR cZ : ClassId} {bS L : Nat} {xs : Nat → Int32} {tF tL tM : Nat} {I : Nat → St → St → Prop} {Q : State → Prop} (X0 : LCX p s m c D cI cJ cR cZ bS L xs tF tL tM) (hIN : Sp_N I) (hI : Sp_breath I) {j : Nat} (hj : j ≤ 64) {x3 : Int32} (hin1 : vp_in (x3 + 1) L) (hin2 : vp_in (x3 + 2) L) (hin3 : vp_in (x3 + 3) L) (hin4 : vp_in (x3 + 4) L) (hin5 : vp_in (x3 + 5) L) {b : Nat → Nat} (hnext : ∀ (N : Nat) (a : Nat → Nat) (u μ : St), I N u μ → ∀ (H : Heap) (locs : List Loc) (ls : Array Slot), Hh D (fun q => s.heap.size ≤ q) (wX N a (EB a cI cJ cR) u ++ wX 21 b (EM b cI cZ) μ) s.heap H locs → lv_has ls 4 [(0, .ref bS), (1, .ref (a 0)), (2, .ref (b 0)), (3, .int x3)] → W p l e room_1 s m #[Value.ref bS] below meth c H locs (100 + 16 * (j + 1)) (2000 + 119 * (j + 1)) Q (F0 m 1302 ls [])) {N : Nat} {a : Nat → Nat} {u μ : St} (hi : I N u μ) {H : Heap} {locs : List Loc} {ls : Array Slot} (h : Hh D (fun q => s.heap.size ≤ q) (wX N a (EB a cI cJ cR) u ++ wX 21 b (EM b cI cZ) μ) s.heap H locs) (hl : lv_has ls 4 [(0, .ref bS), (1, .ref (a 0)), (2, .ref (b 0)), (3, .int x3)]) : W p l e room_1 s m #[Value.ref bS] below meth c H locs (100 + 16 * j) (2000 + 119 * j) Q (F0 m 529 ls []) := by
  obtain ⟨hx, hb, hml, hown, hts, hKL, hN, hW0, hZ, hX, hbl⟩ := X0
  have hK : va_K D vwCl (tyB cI cJ cR) s := hKL.sub [0, 1, 2] rfl
  have hKm : va_K D vwCl (tyM cI cZ) s := hKL.sub [0, 3] rfl
  have hA : ∀ q : Nat, s.heap.size ≤ q → (fun q : Nat => s.heap.size ≤ q) q := fun _ h9 => h9
  have hbA : ¬ (fun q : Nat => s.heap.size ≤ q) bS := Nat.not_le.mpr hbl
  obtain ⟨hNN, hqA, hqB⟩ := hIN N u μ hi
  obtain ⟨y1, ey1⟩ : ∃ y : Int32, y = xs (x3 + 1).toNatClampNeg := ⟨_, rfl⟩
  obtain ⟨y2, ey2⟩ : ∃ y : Int32, y = xs (x3 + 2).toNatClampNeg := ⟨_, rfl⟩
  obtain ⟨r, u2, hf1, hf2, hi2⟩ := hI N u μ y1 y2 hi
  refine lv_aload_n (pc := 529) hx hb dL_law_529 rfl (lv_at hl 1 rfl) ?_
  refine lv_aload_n (pc := 530) hx hb dL_law_530 rfl (lv_at hl 0 rfl) ?_
  refine lv_iload_n (pc := 531) hx hb dL_law_531 rfl (lv_at hl 3 rfl) ?_
  refine lv_iconst (pc := 532) (v := 1) hx hb dL_law_532 (by decide) ?_
  refine lv_iadd (pc := 533) hx hb dL_law_533 ?_
  refine va_sld (pc := 534) hx hb hX hbl hbA h.2.2 hin1 dL_law_534 ?_
  refine rTop ey1 ?_
  refine lv_aload_n (pc := 535) hx hb dL_law_535 rfl (lv_at hl 0 rfl) ?_
  refine lv_iload_n (pc := 536) hx hb dL_law_536 rfl (lv_at hl 3 rfl) ?_
  refine lv_iconst (pc := 537) (v := 2) hx hb dL_law_537 (by decide) ?_
  refine lv_iadd (pc := 538) hx hb dL_law_538 ?_
  refine va_sld (pc := 539) hx hb hX hbl hbA h.2.2 hin2 dL_law_539 ?_
  refine rTop ey2 ?_
  refine lLi (pc := 540) (n := 2) hx hb hml hown hts hK hN (c_X11_breath hNN hf1) (gdV ml_L_63 im_X11_breath se_X11_breath in_X11 co_X11_breath) rfl (by decide +kernel) rfl (Nat.le_of_ble_eq_true rfl) (Nat.le_of_ble_eq_true rfl) h hA hl.1 ⟨show 100 + 16 * j ≤ 600000 by omega, show 2000 + 119 * j ≤ 7302250 by omega⟩ (Nat.lt_of_lt_of_le (by decide) hNN) rfl rfl rfl (Nat.le_of_ble_eq_true rfl) dL_law_540 (fun H locs h => ?_)
  refine lv_aload_n (pc := 543) hx hb dL_law_543 rfl (lv_at hl 2 rfl) ?_
  refine lv_aload_n (pc := 544) hx hb dL_law_544 rfl (lv_at hl 0 rfl) ?_
  refine lv_iload_n (pc := 545) hx hb dL_law_545 rfl (lv_at hl 3 rfl) ?_
  refine lv_iconst (pc := 546) (v := 1) hx hb dL_law_546 (by decide) ?_
  refine lv_iadd (pc := 547) hx hb dL_law_547 ?_
  refine va_sld (pc := 548) hx hb hX hbl hbA h.2.2 hin1 dL_law_548 ?_
  refine rTop ey1 ?_
  refine lv_aload_n (pc := 549) hx hb dL_law_549 rfl (lv_at hl 0 rfl) ?_
  refine lv_iload_n (pc := 550) hx hb dL_law_550 rfl (lv_at hl 3 rfl) ?_
  refine lv_iconst (pc := 551) (v := 2) hx hb dL_law_551 (by decide) ?_
  refine lv_iadd (pc := 552) hx hb dL_law_552 ?_
  refine va_sld (pc := 553) hx hb hX hbl hbA h.2.2 hin2 dL_law_553 ?_
  refine rTop ey2 ?_
  refine lRi (pc := 554) (n := 2) (rest := [.int r]) hx hb hml hown hts hKm hN (c_X12_breath hf2) (gdV ml_L_66 im_X12_breath se_X12_breath in_X12 co_X12_breath) rfl (by decide +kernel) rfl (Nat.le_of_ble_eq_true rfl) (Nat.le_of_ble_eq_true rfl) h hA hl.1 ⟨show 100 + 16 * j ≤ 600000 by omega, show 2000 + 119 * j ≤ 7302250 by omega⟩ (by decide) rfl rfl rfl (Nat.le_of_ble_eq_true rfl) dL_law_554 (fun H locs h => ?_)
  refine lv_icmp_eq (pc := 557) (tgt := 1302) hx hb dL_law_557 (by decide) (fun _ => ?_) (fun h9 => absurd rfl h9)
  refine W.widen (k := 100 + 16 * (j + 1)) (n := 2000 + 119 * (j + 1)) (by omega) (by omega) ?_
  exact hnext _ _ _ _ hi2 _ _ _ h hl
set_option maxRecDepth 100000 in
set_option maxHeartbeats 4000000 in
theorem law_judge {p : Program} {l : Launch} {e : Env} {s : State} {m : MethodId} {below : List Frame} {meth : Method} {c : Code} {D : va_G} {cI cJ cR cZ : ClassId} {bS L : Nat} {xs : Nat → Int32} {tF tL tM : Nat} {I : Nat → St → St → Prop} {Q : State → Prop} (X0 : LCX p s m c D cI cJ cR cZ bS L xs tF tL tM) (hIN : Sp_N I) (hI : Sp_judge I) {j : Nat} (hj : j ≤ 64) {x3 : Int32} (hin1 : vp_in (x3 + 1) L) (hin2 : vp_in (x3 + 2) L) (hin3 : vp_in (x3 + 3) L) (hin4 : vp_in (x3 + 4) L) (hin5 : vp_in (x3 + 5) L) {b : Nat → Nat} (hnext : ∀ (N : Nat) (a : Nat → Nat) (u μ : St), I N u μ → ∀ (H : Heap) (locs : List Loc) (ls : Array Slot), Hh D (fun q => s.heap.size ≤ q) (wX N a (EB a cI cJ cR) u ++ wX 21 b (EM b cI cZ) μ) s.heap H locs → lv_has ls 4 [(0, .ref bS), (1, .ref (a 0)), (2, .ref (b 0)), (3, .int x3)] → W p l e room_1 s m #[Value.ref bS] below meth c H locs (100 + 16 * (j + 1)) (2000 + 119 * (j + 1)) Q (F0 m 1302 ls [])) {N : Nat} {a : Nat → Nat} {u μ : St} (hi : I N u μ) {H : Heap} {locs : List Loc} {ls : Array Slot} (h : Hh D (fun q => s.heap.size ≤ q) (wX N a (EB a cI cJ cR) u ++ wX 21 b (EM b cI cZ) μ) s.heap H locs) (hl : lv_has ls 4 [(0, .ref bS), (1, .ref (a 0)), (2, .ref (b 0)), (3, .int x3)]) : W p l e room_1 s m #[Value.ref bS] below meth c H locs (100 + 16 * j) (2000 + 119 * j) Q (F0 m 562 ls []) := by
  obtain ⟨hx, hb, hml, hown, hts, hKL, hN, hW0, hZ, hX, hbl⟩ := X0
  have hK : va_K D vwCl (tyB cI cJ cR) s := hKL.sub [0, 1, 2] rfl
  have hKm : va_K D vwCl (tyM cI cZ) s := hKL.sub [0, 3] rfl
  have hA : ∀ q : Nat, s.heap.size ≤ q → (fun q : Nat => s.heap.size ≤ q) q := fun _ h9 => h9
  have hbA : ¬ (fun q : Nat => s.heap.size ≤ q) bS := Nat.not_le.mpr hbl
  obtain ⟨hNN, hqA, hqB⟩ := hIN N u μ hi
  obtain ⟨y1, ey1⟩ : ∃ y : Int32, y = xs (x3 + 1).toNatClampNeg := ⟨_, rfl⟩
  obtain ⟨r, u2, μ2, hf1, hf2, hi2⟩ := hI N u μ y1 hi
  refine lv_aload_n (pc := 562) hx hb dL_law_562 rfl (lv_at hl 1 rfl) ?_
  refine lv_aload_n (pc := 563) hx hb dL_law_563 rfl (lv_at hl 0 rfl) ?_
  refine lv_iload_n (pc := 564) hx hb dL_law_564 rfl (lv_at hl 3 rfl) ?_
  refine lv_iconst (pc := 565) (v := 1) hx hb dL_law_565 (by decide) ?_
  refine lv_iadd (pc := 566) hx hb dL_law_566 ?_
  refine va_sld (pc := 567) hx hb hX hbl hbA h.2.2 hin1 dL_law_567 ?_
  refine rTop ey1 ?_
  refine lLi (pc := 568) (n := 1) hx hb hml hown hts hK hN (c_X11_judge hNN hf1) (gdV ml_L_67 im_X11_judge se_X11_judge in_X11 co_X11_judge) rfl (by decide +kernel) rfl (Nat.le_of_ble_eq_true rfl) (Nat.le_of_ble_eq_true rfl) h hA hl.1 ⟨show 100 + 16 * j ≤ 600000 by omega, show 2000 + 119 * j ≤ 7302250 by omega⟩ (Nat.lt_of_lt_of_le (by decide) hNN) rfl rfl rfl (Nat.le_of_ble_eq_true rfl) dL_law_568 (fun H locs h => ?_)
  refine lv_aload_n (pc := 571) hx hb dL_law_571 rfl (lv_at hl 2 rfl) ?_
  refine lv_aload_n (pc := 572) hx hb dL_law_572 rfl (lv_at hl 0 rfl) ?_
  refine lv_iload_n (pc := 573) hx hb dL_law_573 rfl (lv_at hl 3 rfl) ?_
  refine lv_iconst (pc := 574) (v := 1) hx hb dL_law_574 (by decide) ?_
  refine lv_iadd (pc := 575) hx hb dL_law_575 ?_
  refine va_sld (pc := 576) hx hb hX hbl hbA h.2.2 hin1 dL_law_576 ?_
  refine rTop ey1 ?_
  refine lRi (pc := 577) (n := 1) (rest := [.int r]) hx hb hml hown hts hKm hN (c_X12_judge hf2) (gdV ml_L_70 im_X12_judge se_X12_judge in_X12 co_X12_judge) rfl (by decide +kernel) rfl (Nat.le_of_ble_eq_true rfl) (Nat.le_of_ble_eq_true rfl) h hA hl.1 ⟨show 100 + 16 * j ≤ 600000 by omega, show 2000 + 119 * j ≤ 7302250 by omega⟩ (by decide) rfl rfl rfl (Nat.le_of_ble_eq_true rfl) dL_law_577 (fun H locs h => ?_)
  refine lv_icmp_eq (pc := 580) (tgt := 1302) hx hb dL_law_580 (by decide) (fun _ => ?_) (fun h9 => absurd rfl h9)
  refine W.widen (k := 100 + 16 * (j + 1)) (n := 2000 + 119 * (j + 1)) (by omega) (by omega) ?_
  exact hnext _ _ _ _ hi2 _ _ _ h hl
set_option maxRecDepth 100000 in
set_option maxHeartbeats 4000000 in
theorem law_behind {p : Program} {l : Launch} {e : Env} {s : State} {m : MethodId} {below : List Frame} {meth : Method} {c : Code} {D : va_G} {cI cJ cR cZ : ClassId} {bS L : Nat} {xs : Nat → Int32} {tF tL tM : Nat} {I : Nat → St → St → Prop} {Q : State → Prop} (X0 : LCX p s m c D cI cJ cR cZ bS L xs tF tL tM) (hIN : Sp_N I) (hI : Sp_behind I) {j : Nat} (hj : j ≤ 64) {x3 : Int32} (hin1 : vp_in (x3 + 1) L) (hin2 : vp_in (x3 + 2) L) (hin3 : vp_in (x3 + 3) L) (hin4 : vp_in (x3 + 4) L) (hin5 : vp_in (x3 + 5) L) {b : Nat → Nat} (hnext : ∀ (N : Nat) (a : Nat → Nat) (u μ : St), I N u μ → ∀ (H : Heap) (locs : List Loc) (ls : Array Slot), Hh D (fun q => s.heap.size ≤ q) (wX N a (EB a cI cJ cR) u ++ wX 21 b (EM b cI cZ) μ) s.heap H locs → lv_has ls 4 [(0, .ref bS), (1, .ref (a 0)), (2, .ref (b 0)), (3, .int x3)] → W p l e room_1 s m #[Value.ref bS] below meth c H locs (100 + 16 * (j + 1)) (2000 + 119 * (j + 1)) Q (F0 m 1302 ls [])) {N : Nat} {a : Nat → Nat} {u μ : St} (hi : I N u μ) {H : Heap} {locs : List Loc} {ls : Array Slot} (h : Hh D (fun q => s.heap.size ≤ q) (wX N a (EB a cI cJ cR) u ++ wX 21 b (EM b cI cZ) μ) s.heap H locs) (hl : lv_has ls 4 [(0, .ref bS), (1, .ref (a 0)), (2, .ref (b 0)), (3, .int x3)]) : W p l e room_1 s m #[Value.ref bS] below meth c H locs (100 + 16 * j) (2000 + 119 * j) Q (F0 m 585 ls []) := by
  obtain ⟨hx, hb, hml, hown, hts, hKL, hN, hW0, hZ, hX, hbl⟩ := X0
  have hK : va_K D vwCl (tyB cI cJ cR) s := hKL.sub [0, 1, 2] rfl
  have hKm : va_K D vwCl (tyM cI cZ) s := hKL.sub [0, 3] rfl
  have hA : ∀ q : Nat, s.heap.size ≤ q → (fun q : Nat => s.heap.size ≤ q) q := fun _ h9 => h9
  have hbA : ¬ (fun q : Nat => s.heap.size ≤ q) bS := Nat.not_le.mpr hbl
  obtain ⟨hNN, hqA, hqB⟩ := hIN N u μ hi
  obtain ⟨y1, ey1⟩ : ∃ y : Int32, y = xs (x3 + 1).toNatClampNeg := ⟨_, rfl⟩
  obtain ⟨y2, ey2⟩ : ∃ y : Int32, y = xs (x3 + 2).toNatClampNeg := ⟨_, rfl⟩
  obtain ⟨r, u2, μ2, hf1, hf2, hi2⟩ := hI N u μ y1 y2 hi
  refine lv_aload_n (pc := 585) hx hb dL_law_585 rfl (lv_at hl 1 rfl) ?_
  refine lv_aload_n (pc := 586) hx hb dL_law_586 rfl (lv_at hl 0 rfl) ?_
  refine lv_iload_n (pc := 587) hx hb dL_law_587 rfl (lv_at hl 3 rfl) ?_
  refine lv_iconst (pc := 588) (v := 1) hx hb dL_law_588 (by decide) ?_
  refine lv_iadd (pc := 589) hx hb dL_law_589 ?_
  refine va_sld (pc := 590) hx hb hX hbl hbA h.2.2 hin1 dL_law_590 ?_
  refine rTop ey1 ?_
  refine lv_aload_n (pc := 591) hx hb dL_law_591 rfl (lv_at hl 0 rfl) ?_
  refine lv_iload_n (pc := 592) hx hb dL_law_592 rfl (lv_at hl 3 rfl) ?_
  refine lv_iconst (pc := 593) (v := 2) hx hb dL_law_593 (by decide) ?_
  refine lv_iadd (pc := 594) hx hb dL_law_594 ?_
  refine va_sld (pc := 595) hx hb hX hbl hbA h.2.2 hin2 dL_law_595 ?_
  refine rTop ey2 ?_
  refine lLi (pc := 596) (n := 2) hx hb hml hown hts hK hN (c_X11_behind hNN hf1) (gdV ml_L_71 im_X11_behind se_X11_behind in_X11 co_X11_behind) rfl (by decide +kernel) rfl (Nat.le_of_ble_eq_true rfl) (Nat.le_of_ble_eq_true rfl) h hA hl.1 ⟨show 100 + 16 * j ≤ 600000 by omega, show 2000 + 119 * j ≤ 7302250 by omega⟩ (Nat.lt_of_lt_of_le (by decide) hNN) rfl rfl rfl (Nat.le_of_ble_eq_true rfl) dL_law_596 (fun H locs h => ?_)
  refine lv_aload_n (pc := 599) hx hb dL_law_599 rfl (lv_at hl 2 rfl) ?_
  refine lv_aload_n (pc := 600) hx hb dL_law_600 rfl (lv_at hl 0 rfl) ?_
  refine lv_iload_n (pc := 601) hx hb dL_law_601 rfl (lv_at hl 3 rfl) ?_
  refine lv_iconst (pc := 602) (v := 1) hx hb dL_law_602 (by decide) ?_
  refine lv_iadd (pc := 603) hx hb dL_law_603 ?_
  refine va_sld (pc := 604) hx hb hX hbl hbA h.2.2 hin1 dL_law_604 ?_
  refine rTop ey1 ?_
  refine lv_aload_n (pc := 605) hx hb dL_law_605 rfl (lv_at hl 0 rfl) ?_
  refine lv_iload_n (pc := 606) hx hb dL_law_606 rfl (lv_at hl 3 rfl) ?_
  refine lv_iconst (pc := 607) (v := 2) hx hb dL_law_607 (by decide) ?_
  refine lv_iadd (pc := 608) hx hb dL_law_608 ?_
  refine va_sld (pc := 609) hx hb hX hbl hbA h.2.2 hin2 dL_law_609 ?_
  refine rTop ey2 ?_
  refine lRi (pc := 610) (n := 2) (rest := [.int r]) hx hb hml hown hts hKm hN (c_X12_behind hf2) (gdV ml_L_74 im_X12_behind se_X12_behind in_X12 co_X12_behind) rfl (by decide +kernel) rfl (Nat.le_of_ble_eq_true rfl) (Nat.le_of_ble_eq_true rfl) h hA hl.1 ⟨show 100 + 16 * j ≤ 600000 by omega, show 2000 + 119 * j ≤ 7302250 by omega⟩ (by decide) rfl rfl rfl (Nat.le_of_ble_eq_true rfl) dL_law_610 (fun H locs h => ?_)
  refine lv_icmp_eq (pc := 613) (tgt := 1302) hx hb dL_law_613 (by decide) (fun _ => ?_) (fun h9 => absurd rfl h9)
  refine W.widen (k := 100 + 16 * (j + 1)) (n := 2000 + 119 * (j + 1)) (by omega) (by omega) ?_
  exact hnext _ _ _ _ hi2 _ _ _ h hl
set_option maxRecDepth 100000 in
set_option maxHeartbeats 4000000 in
theorem law_hands {p : Program} {l : Launch} {e : Env} {s : State} {m : MethodId} {below : List Frame} {meth : Method} {c : Code} {D : va_G} {cI cJ cR cZ : ClassId} {bS L : Nat} {xs : Nat → Int32} {tF tL tM : Nat} {I : Nat → St → St → Prop} {Q : State → Prop} (X0 : LCX p s m c D cI cJ cR cZ bS L xs tF tL tM) (hIN : Sp_N I) (hI : Sp_hands I) {j : Nat} (hj : j ≤ 64) {x3 : Int32} (hin1 : vp_in (x3 + 1) L) (hin2 : vp_in (x3 + 2) L) (hin3 : vp_in (x3 + 3) L) (hin4 : vp_in (x3 + 4) L) (hin5 : vp_in (x3 + 5) L) {b : Nat → Nat} (hnext : ∀ (N : Nat) (a : Nat → Nat) (u μ : St), I N u μ → ∀ (H : Heap) (locs : List Loc) (ls : Array Slot), Hh D (fun q => s.heap.size ≤ q) (wX N a (EB a cI cJ cR) u ++ wX 21 b (EM b cI cZ) μ) s.heap H locs → lv_has ls 4 [(0, .ref bS), (1, .ref (a 0)), (2, .ref (b 0)), (3, .int x3)] → W p l e room_1 s m #[Value.ref bS] below meth c H locs (100 + 16 * (j + 1)) (2000 + 119 * (j + 1)) Q (F0 m 1302 ls [])) {N : Nat} {a : Nat → Nat} {u μ : St} (hi : I N u μ) {H : Heap} {locs : List Loc} {ls : Array Slot} (h : Hh D (fun q => s.heap.size ≤ q) (wX N a (EB a cI cJ cR) u ++ wX 21 b (EM b cI cZ) μ) s.heap H locs) (hl : lv_has ls 4 [(0, .ref bS), (1, .ref (a 0)), (2, .ref (b 0)), (3, .int x3)]) : W p l e room_1 s m #[Value.ref bS] below meth c H locs (100 + 16 * j) (2000 + 119 * j) Q (F0 m 618 ls []) := by
  obtain ⟨hx, hb, hml, hown, hts, hKL, hN, hW0, hZ, hX, hbl⟩ := X0
  have hK : va_K D vwCl (tyB cI cJ cR) s := hKL.sub [0, 1, 2] rfl
  have hKm : va_K D vwCl (tyM cI cZ) s := hKL.sub [0, 3] rfl
  have hA : ∀ q : Nat, s.heap.size ≤ q → (fun q : Nat => s.heap.size ≤ q) q := fun _ h9 => h9
  have hbA : ¬ (fun q : Nat => s.heap.size ≤ q) bS := Nat.not_le.mpr hbl
  obtain ⟨hNN, hqA, hqB⟩ := hIN N u μ hi
  obtain ⟨r, u2, μ2, hf1, hf2, hi2⟩ := hI N u μ hi
  refine lv_aload_n (pc := 618) hx hb dL_law_618 rfl (lv_at hl 1 rfl) ?_
  refine lLi (pc := 619) (n := 0) hx hb hml hown hts hK hN (c_X11_hands hNN hf1) (gdV ml_L_75 im_X11_hands se_X11_hands in_X11 co_X11_hands) rfl (by decide +kernel) rfl (Nat.le_of_ble_eq_true rfl) (Nat.le_of_ble_eq_true rfl) h hA hl.1 ⟨show 100 + 16 * j ≤ 600000 by omega, show 2000 + 119 * j ≤ 7302250 by omega⟩ (Nat.lt_of_lt_of_le (by decide) hNN) rfl rfl rfl (Nat.le_of_ble_eq_true rfl) dL_law_619 (fun H locs h => ?_)
  refine lv_aload_n (pc := 622) hx hb dL_law_622 rfl (lv_at hl 2 rfl) ?_
  refine lRi (pc := 623) (n := 0) (rest := [.int r]) hx hb hml hown hts hKm hN (c_X12_hands hf2) (gdV ml_L_78 im_X12_hands se_X12_hands in_X12 co_X12_hands) rfl (by decide +kernel) rfl (Nat.le_of_ble_eq_true rfl) (Nat.le_of_ble_eq_true rfl) h hA hl.1 ⟨show 100 + 16 * j ≤ 600000 by omega, show 2000 + 119 * j ≤ 7302250 by omega⟩ (by decide) rfl rfl rfl (Nat.le_of_ble_eq_true rfl) dL_law_623 (fun H locs h => ?_)
  refine lv_icmp_eq (pc := 626) (tgt := 1302) hx hb dL_law_626 (by decide) (fun _ => ?_) (fun h9 => absurd rfl h9)
  refine W.widen (k := 100 + 16 * (j + 1)) (n := 2000 + 119 * (j + 1)) (by omega) (by omega) ?_
  exact hnext _ _ _ _ hi2 _ _ _ h hl
set_option maxRecDepth 100000 in
set_option maxHeartbeats 4000000 in
theorem law_acid {p : Program} {l : Launch} {e : Env} {s : State} {m : MethodId} {below : List Frame} {meth : Method} {c : Code} {D : va_G} {cI cJ cR cZ : ClassId} {bS L : Nat} {xs : Nat → Int32} {tF tL tM : Nat} {I : Nat → St → St → Prop} {Q : State → Prop} (X0 : LCX p s m c D cI cJ cR cZ bS L xs tF tL tM) (hIN : Sp_N I) (hI : Sp_acid I) {j : Nat} (hj : j ≤ 64) {x3 : Int32} (hin1 : vp_in (x3 + 1) L) (hin2 : vp_in (x3 + 2) L) (hin3 : vp_in (x3 + 3) L) (hin4 : vp_in (x3 + 4) L) (hin5 : vp_in (x3 + 5) L) {b : Nat → Nat} (hnext : ∀ (N : Nat) (a : Nat → Nat) (u μ : St), I N u μ → ∀ (H : Heap) (locs : List Loc) (ls : Array Slot), Hh D (fun q => s.heap.size ≤ q) (wX N a (EB a cI cJ cR) u ++ wX 21 b (EM b cI cZ) μ) s.heap H locs → lv_has ls 4 [(0, .ref bS), (1, .ref (a 0)), (2, .ref (b 0)), (3, .int x3)] → W p l e room_1 s m #[Value.ref bS] below meth c H locs (100 + 16 * (j + 1)) (2000 + 119 * (j + 1)) Q (F0 m 1302 ls [])) {N : Nat} {a : Nat → Nat} {u μ : St} (hi : I N u μ) {H : Heap} {locs : List Loc} {ls : Array Slot} (h : Hh D (fun q => s.heap.size ≤ q) (wX N a (EB a cI cJ cR) u ++ wX 21 b (EM b cI cZ) μ) s.heap H locs) (hl : lv_has ls 4 [(0, .ref bS), (1, .ref (a 0)), (2, .ref (b 0)), (3, .int x3)]) : W p l e room_1 s m #[Value.ref bS] below meth c H locs (100 + 16 * j) (2000 + 119 * j) Q (F0 m 631 ls []) := by
  obtain ⟨hx, hb, hml, hown, hts, hKL, hN, hW0, hZ, hX, hbl⟩ := X0
  have hK : va_K D vwCl (tyB cI cJ cR) s := hKL.sub [0, 1, 2] rfl
  have hKm : va_K D vwCl (tyM cI cZ) s := hKL.sub [0, 3] rfl
  have hA : ∀ q : Nat, s.heap.size ≤ q → (fun q : Nat => s.heap.size ≤ q) q := fun _ h9 => h9
  have hbA : ¬ (fun q : Nat => s.heap.size ≤ q) bS := Nat.not_le.mpr hbl
  obtain ⟨hNN, hqA, hqB⟩ := hIN N u μ hi
  obtain ⟨y1, ey1⟩ : ∃ y : Int32, y = xs (x3 + 1).toNatClampNeg := ⟨_, rfl⟩
  obtain ⟨y2, ey2⟩ : ∃ y : Int32, y = xs (x3 + 2).toNatClampNeg := ⟨_, rfl⟩
  obtain ⟨r, u2, hf1, hf2, hi2⟩ := hI N u μ y1 y2 hi
  refine lv_aload_n (pc := 631) hx hb dL_law_631 rfl (lv_at hl 1 rfl) ?_
  refine lv_aload_n (pc := 632) hx hb dL_law_632 rfl (lv_at hl 0 rfl) ?_
  refine lv_iload_n (pc := 633) hx hb dL_law_633 rfl (lv_at hl 3 rfl) ?_
  refine lv_iconst (pc := 634) (v := 1) hx hb dL_law_634 (by decide) ?_
  refine lv_iadd (pc := 635) hx hb dL_law_635 ?_
  refine va_sld (pc := 636) hx hb hX hbl hbA h.2.2 hin1 dL_law_636 ?_
  refine rTop ey1 ?_
  refine lv_aload_n (pc := 637) hx hb dL_law_637 rfl (lv_at hl 0 rfl) ?_
  refine lv_iload_n (pc := 638) hx hb dL_law_638 rfl (lv_at hl 3 rfl) ?_
  refine lv_iconst (pc := 639) (v := 2) hx hb dL_law_639 (by decide) ?_
  refine lv_iadd (pc := 640) hx hb dL_law_640 ?_
  refine va_sld (pc := 641) hx hb hX hbl hbA h.2.2 hin2 dL_law_641 ?_
  refine rTop ey2 ?_
  refine lLi (pc := 642) (n := 2) hx hb hml hown hts hK hN (c_X11_acid hNN hf1) (gdV ml_L_79 im_X11_acid se_X11_acid in_X11 co_X11_acid) rfl (by decide +kernel) rfl (Nat.le_of_ble_eq_true rfl) (Nat.le_of_ble_eq_true rfl) h hA hl.1 ⟨show 100 + 16 * j ≤ 600000 by omega, show 2000 + 119 * j ≤ 7302250 by omega⟩ (Nat.lt_of_lt_of_le (by decide) hNN) rfl rfl rfl (Nat.le_of_ble_eq_true rfl) dL_law_642 (fun H locs h => ?_)
  refine lv_aload_n (pc := 645) hx hb dL_law_645 rfl (lv_at hl 2 rfl) ?_
  refine lv_aload_n (pc := 646) hx hb dL_law_646 rfl (lv_at hl 0 rfl) ?_
  refine lv_iload_n (pc := 647) hx hb dL_law_647 rfl (lv_at hl 3 rfl) ?_
  refine lv_iconst (pc := 648) (v := 1) hx hb dL_law_648 (by decide) ?_
  refine lv_iadd (pc := 649) hx hb dL_law_649 ?_
  refine va_sld (pc := 650) hx hb hX hbl hbA h.2.2 hin1 dL_law_650 ?_
  refine rTop ey1 ?_
  refine lv_aload_n (pc := 651) hx hb dL_law_651 rfl (lv_at hl 0 rfl) ?_
  refine lv_iload_n (pc := 652) hx hb dL_law_652 rfl (lv_at hl 3 rfl) ?_
  refine lv_iconst (pc := 653) (v := 2) hx hb dL_law_653 (by decide) ?_
  refine lv_iadd (pc := 654) hx hb dL_law_654 ?_
  refine va_sld (pc := 655) hx hb hX hbl hbA h.2.2 hin2 dL_law_655 ?_
  refine rTop ey2 ?_
  refine lRi (pc := 656) (n := 2) (rest := [.int r]) hx hb hml hown hts hKm hN (c_X12_acid hf2) (gdV ml_L_82 im_X12_acid se_X12_acid in_X12 co_X12_acid) rfl (by decide +kernel) rfl (Nat.le_of_ble_eq_true rfl) (Nat.le_of_ble_eq_true rfl) h hA hl.1 ⟨show 100 + 16 * j ≤ 600000 by omega, show 2000 + 119 * j ≤ 7302250 by omega⟩ (by decide) rfl rfl rfl (Nat.le_of_ble_eq_true rfl) dL_law_656 (fun H locs h => ?_)
  refine lv_icmp_eq (pc := 659) (tgt := 1302) hx hb dL_law_659 (by decide) (fun _ => ?_) (fun h9 => absurd rfl h9)
  refine W.widen (k := 100 + 16 * (j + 1)) (n := 2000 + 119 * (j + 1)) (by omega) (by omega) ?_
  exact hnext _ _ _ _ hi2 _ _ _ h hl
set_option maxRecDepth 100000 in
set_option maxHeartbeats 4000000 in
theorem law_sours {p : Program} {l : Launch} {e : Env} {s : State} {m : MethodId} {below : List Frame} {meth : Method} {c : Code} {D : va_G} {cI cJ cR cZ : ClassId} {bS L : Nat} {xs : Nat → Int32} {tF tL tM : Nat} {I : Nat → St → St → Prop} {Q : State → Prop} (X0 : LCX p s m c D cI cJ cR cZ bS L xs tF tL tM) (hIN : Sp_N I) (hI : Sp_sours I) {j : Nat} (hj : j ≤ 64) {x3 : Int32} (hin1 : vp_in (x3 + 1) L) (hin2 : vp_in (x3 + 2) L) (hin3 : vp_in (x3 + 3) L) (hin4 : vp_in (x3 + 4) L) (hin5 : vp_in (x3 + 5) L) {b : Nat → Nat} (hnext : ∀ (N : Nat) (a : Nat → Nat) (u μ : St), I N u μ → ∀ (H : Heap) (locs : List Loc) (ls : Array Slot), Hh D (fun q => s.heap.size ≤ q) (wX N a (EB a cI cJ cR) u ++ wX 21 b (EM b cI cZ) μ) s.heap H locs → lv_has ls 4 [(0, .ref bS), (1, .ref (a 0)), (2, .ref (b 0)), (3, .int x3)] → W p l e room_1 s m #[Value.ref bS] below meth c H locs (100 + 16 * (j + 1)) (2000 + 119 * (j + 1)) Q (F0 m 1302 ls [])) {N : Nat} {a : Nat → Nat} {u μ : St} (hi : I N u μ) {H : Heap} {locs : List Loc} {ls : Array Slot} (h : Hh D (fun q => s.heap.size ≤ q) (wX N a (EB a cI cJ cR) u ++ wX 21 b (EM b cI cZ) μ) s.heap H locs) (hl : lv_has ls 4 [(0, .ref bS), (1, .ref (a 0)), (2, .ref (b 0)), (3, .int x3)]) : W p l e room_1 s m #[Value.ref bS] below meth c H locs (100 + 16 * j) (2000 + 119 * j) Q (F0 m 664 ls []) := by
  obtain ⟨hx, hb, hml, hown, hts, hKL, hN, hW0, hZ, hX, hbl⟩ := X0
  have hK : va_K D vwCl (tyB cI cJ cR) s := hKL.sub [0, 1, 2] rfl
  have hKm : va_K D vwCl (tyM cI cZ) s := hKL.sub [0, 3] rfl
  have hA : ∀ q : Nat, s.heap.size ≤ q → (fun q : Nat => s.heap.size ≤ q) q := fun _ h9 => h9
  have hbA : ¬ (fun q : Nat => s.heap.size ≤ q) bS := Nat.not_le.mpr hbl
  obtain ⟨hNN, hqA, hqB⟩ := hIN N u μ hi
  obtain ⟨y1, ey1⟩ : ∃ y : Int32, y = xs (x3 + 1).toNatClampNeg := ⟨_, rfl⟩
  obtain ⟨r, u2, hf1, hf2, hi2⟩ := hI N u μ y1 hi
  refine lv_aload_n (pc := 664) hx hb dL_law_664 rfl (lv_at hl 1 rfl) ?_
  refine lv_aload_n (pc := 665) hx hb dL_law_665 rfl (lv_at hl 0 rfl) ?_
  refine lv_iload_n (pc := 666) hx hb dL_law_666 rfl (lv_at hl 3 rfl) ?_
  refine lv_iconst (pc := 667) (v := 1) hx hb dL_law_667 (by decide) ?_
  refine lv_iadd (pc := 668) hx hb dL_law_668 ?_
  refine va_sld (pc := 669) hx hb hX hbl hbA h.2.2 hin1 dL_law_669 ?_
  refine rTop ey1 ?_
  refine lLi (pc := 670) (n := 1) hx hb hml hown hts hK hN (c_X11_sours hNN hf1) (gdV ml_L_83 im_X11_sours se_X11_sours in_X11 co_X11_sours) rfl (by decide +kernel) rfl (Nat.le_of_ble_eq_true rfl) (Nat.le_of_ble_eq_true rfl) h hA hl.1 ⟨show 100 + 16 * j ≤ 600000 by omega, show 2000 + 119 * j ≤ 7302250 by omega⟩ (Nat.lt_of_lt_of_le (by decide) hNN) rfl rfl rfl (Nat.le_of_ble_eq_true rfl) dL_law_670 (fun H locs h => ?_)
  refine lv_aload_n (pc := 673) hx hb dL_law_673 rfl (lv_at hl 2 rfl) ?_
  refine lv_aload_n (pc := 674) hx hb dL_law_674 rfl (lv_at hl 0 rfl) ?_
  refine lv_iload_n (pc := 675) hx hb dL_law_675 rfl (lv_at hl 3 rfl) ?_
  refine lv_iconst (pc := 676) (v := 1) hx hb dL_law_676 (by decide) ?_
  refine lv_iadd (pc := 677) hx hb dL_law_677 ?_
  refine va_sld (pc := 678) hx hb hX hbl hbA h.2.2 hin1 dL_law_678 ?_
  refine rTop ey1 ?_
  refine lRi (pc := 679) (n := 1) (rest := [.int r]) hx hb hml hown hts hKm hN (c_X12_sours hf2) (gdV ml_L_86 im_X12_sours se_X12_sours in_X12 co_X12_sours) rfl (by decide +kernel) rfl (Nat.le_of_ble_eq_true rfl) (Nat.le_of_ble_eq_true rfl) h hA hl.1 ⟨show 100 + 16 * j ≤ 600000 by omega, show 2000 + 119 * j ≤ 7302250 by omega⟩ (by decide) rfl rfl rfl (Nat.le_of_ble_eq_true rfl) dL_law_679 (fun H locs h => ?_)
  refine lv_icmp_eq (pc := 682) (tgt := 1302) hx hb dL_law_682 (by decide) (fun _ => ?_) (fun h9 => absurd rfl h9)
  refine W.widen (k := 100 + 16 * (j + 1)) (n := 2000 + 119 * (j + 1)) (by omega) (by omega) ?_
  exact hnext _ _ _ _ hi2 _ _ _ h hl
set_option maxRecDepth 100000 in
set_option maxHeartbeats 4000000 in
theorem law_lost {p : Program} {l : Launch} {e : Env} {s : State} {m : MethodId} {below : List Frame} {meth : Method} {c : Code} {D : va_G} {cI cJ cR cZ : ClassId} {bS L : Nat} {xs : Nat → Int32} {tF tL tM : Nat} {I : Nat → St → St → Prop} {Q : State → Prop} (X0 : LCX p s m c D cI cJ cR cZ bS L xs tF tL tM) (hIN : Sp_N I) (hI : Sp_lost I) {j : Nat} (hj : j ≤ 64) {x3 : Int32} (hin1 : vp_in (x3 + 1) L) (hin2 : vp_in (x3 + 2) L) (hin3 : vp_in (x3 + 3) L) (hin4 : vp_in (x3 + 4) L) (hin5 : vp_in (x3 + 5) L) {b : Nat → Nat} (hnext : ∀ (N : Nat) (a : Nat → Nat) (u μ : St), I N u μ → ∀ (H : Heap) (locs : List Loc) (ls : Array Slot), Hh D (fun q => s.heap.size ≤ q) (wX N a (EB a cI cJ cR) u ++ wX 21 b (EM b cI cZ) μ) s.heap H locs → lv_has ls 4 [(0, .ref bS), (1, .ref (a 0)), (2, .ref (b 0)), (3, .int x3)] → W p l e room_1 s m #[Value.ref bS] below meth c H locs (100 + 16 * (j + 1)) (2000 + 119 * (j + 1)) Q (F0 m 1302 ls [])) {N : Nat} {a : Nat → Nat} {u μ : St} (hi : I N u μ) {H : Heap} {locs : List Loc} {ls : Array Slot} (h : Hh D (fun q => s.heap.size ≤ q) (wX N a (EB a cI cJ cR) u ++ wX 21 b (EM b cI cZ) μ) s.heap H locs) (hl : lv_has ls 4 [(0, .ref bS), (1, .ref (a 0)), (2, .ref (b 0)), (3, .int x3)]) : W p l e room_1 s m #[Value.ref bS] below meth c H locs (100 + 16 * j) (2000 + 119 * j) Q (F0 m 687 ls []) := by
  obtain ⟨hx, hb, hml, hown, hts, hKL, hN, hW0, hZ, hX, hbl⟩ := X0
  have hK : va_K D vwCl (tyB cI cJ cR) s := hKL.sub [0, 1, 2] rfl
  have hKm : va_K D vwCl (tyM cI cZ) s := hKL.sub [0, 3] rfl
  have hA : ∀ q : Nat, s.heap.size ≤ q → (fun q : Nat => s.heap.size ≤ q) q := fun _ h9 => h9
  have hbA : ¬ (fun q : Nat => s.heap.size ≤ q) bS := Nat.not_le.mpr hbl
  obtain ⟨hNN, hqA, hqB⟩ := hIN N u μ hi
  obtain ⟨y1, ey1⟩ : ∃ y : Int32, y = xs (x3 + 1).toNatClampNeg := ⟨_, rfl⟩
  obtain ⟨r, u2, hf1, hf2, hi2⟩ := hI N u μ y1 hi
  refine lv_aload_n (pc := 687) hx hb dL_law_687 rfl (lv_at hl 1 rfl) ?_
  refine lv_aload_n (pc := 688) hx hb dL_law_688 rfl (lv_at hl 0 rfl) ?_
  refine lv_iload_n (pc := 689) hx hb dL_law_689 rfl (lv_at hl 3 rfl) ?_
  refine lv_iconst (pc := 690) (v := 1) hx hb dL_law_690 (by decide) ?_
  refine lv_iadd (pc := 691) hx hb dL_law_691 ?_
  refine va_sld (pc := 692) hx hb hX hbl hbA h.2.2 hin1 dL_law_692 ?_
  refine rTop ey1 ?_
  refine lLi (pc := 693) (n := 1) hx hb hml hown hts hK hN (c_X11_lost hNN hf1) (gdV ml_L_87 im_X11_lost se_X11_lost in_X11 co_X11_lost) rfl (by decide +kernel) rfl (Nat.le_of_ble_eq_true rfl) (Nat.le_of_ble_eq_true rfl) h hA hl.1 ⟨show 100 + 16 * j ≤ 600000 by omega, show 2000 + 119 * j ≤ 7302250 by omega⟩ (Nat.lt_of_lt_of_le (by decide) hNN) rfl rfl rfl (Nat.le_of_ble_eq_true rfl) dL_law_693 (fun H locs h => ?_)
  refine lv_aload_n (pc := 696) hx hb dL_law_696 rfl (lv_at hl 2 rfl) ?_
  refine lv_aload_n (pc := 697) hx hb dL_law_697 rfl (lv_at hl 0 rfl) ?_
  refine lv_iload_n (pc := 698) hx hb dL_law_698 rfl (lv_at hl 3 rfl) ?_
  refine lv_iconst (pc := 699) (v := 1) hx hb dL_law_699 (by decide) ?_
  refine lv_iadd (pc := 700) hx hb dL_law_700 ?_
  refine va_sld (pc := 701) hx hb hX hbl hbA h.2.2 hin1 dL_law_701 ?_
  refine rTop ey1 ?_
  refine lRi (pc := 702) (n := 1) (rest := [.int r]) hx hb hml hown hts hKm hN (c_X12_lost hf2) (gdV ml_L_90 im_X12_lost se_X12_lost in_X12 co_X12_lost) rfl (by decide +kernel) rfl (Nat.le_of_ble_eq_true rfl) (Nat.le_of_ble_eq_true rfl) h hA hl.1 ⟨show 100 + 16 * j ≤ 600000 by omega, show 2000 + 119 * j ≤ 7302250 by omega⟩ (by decide) rfl rfl rfl (Nat.le_of_ble_eq_true rfl) dL_law_702 (fun H locs h => ?_)
  refine lv_icmp_eq (pc := 705) (tgt := 1302) hx hb dL_law_705 (by decide) (fun _ => ?_) (fun h9 => absurd rfl h9)
  refine W.widen (k := 100 + 16 * (j + 1)) (n := 2000 + 119 * (j + 1)) (by omega) (by omega) ?_
  exact hnext _ _ _ _ hi2 _ _ _ h hl
set_option maxRecDepth 100000 in
set_option maxHeartbeats 4000000 in
theorem law_plan {p : Program} {l : Launch} {e : Env} {s : State} {m : MethodId} {below : List Frame} {meth : Method} {c : Code} {D : va_G} {cI cJ cR cZ : ClassId} {bS L : Nat} {xs : Nat → Int32} {tF tL tM : Nat} {I : Nat → St → St → Prop} {Q : State → Prop} (X0 : LCX p s m c D cI cJ cR cZ bS L xs tF tL tM) (hIN : Sp_N I) (hI : Sp_plan I) {j : Nat} (hj : j ≤ 64) {x3 : Int32} (hin1 : vp_in (x3 + 1) L) (hin2 : vp_in (x3 + 2) L) (hin3 : vp_in (x3 + 3) L) (hin4 : vp_in (x3 + 4) L) (hin5 : vp_in (x3 + 5) L) {b : Nat → Nat} (hnext : ∀ (N : Nat) (a : Nat → Nat) (u μ : St), I N u μ → ∀ (H : Heap) (locs : List Loc) (ls : Array Slot), Hh D (fun q => s.heap.size ≤ q) (wX N a (EB a cI cJ cR) u ++ wX 21 b (EM b cI cZ) μ) s.heap H locs → lv_has ls 4 [(0, .ref bS), (1, .ref (a 0)), (2, .ref (b 0)), (3, .int x3)] → W p l e room_1 s m #[Value.ref bS] below meth c H locs (100 + 16 * (j + 1)) (2000 + 119 * (j + 1)) Q (F0 m 1302 ls [])) {N : Nat} {a : Nat → Nat} {u μ : St} (hi : I N u μ) {H : Heap} {locs : List Loc} {ls : Array Slot} (h : Hh D (fun q => s.heap.size ≤ q) (wX N a (EB a cI cJ cR) u ++ wX 21 b (EM b cI cZ) μ) s.heap H locs) (hl : lv_has ls 4 [(0, .ref bS), (1, .ref (a 0)), (2, .ref (b 0)), (3, .int x3)]) : W p l e room_1 s m #[Value.ref bS] below meth c H locs (100 + 16 * j) (2000 + 119 * j) Q (F0 m 710 ls []) := by
  obtain ⟨hx, hb, hml, hown, hts, hKL, hN, hW0, hZ, hX, hbl⟩ := X0
  have hK : va_K D vwCl (tyB cI cJ cR) s := hKL.sub [0, 1, 2] rfl
  have hKm : va_K D vwCl (tyM cI cZ) s := hKL.sub [0, 3] rfl
  have hA : ∀ q : Nat, s.heap.size ≤ q → (fun q : Nat => s.heap.size ≤ q) q := fun _ h9 => h9
  have hbA : ¬ (fun q : Nat => s.heap.size ≤ q) bS := Nat.not_le.mpr hbl
  obtain ⟨hNN, hqA, hqB⟩ := hIN N u μ hi
  obtain ⟨y1, ey1⟩ : ∃ y : Int32, y = xs (x3 + 1).toNatClampNeg := ⟨_, rfl⟩
  obtain ⟨y2, ey2⟩ : ∃ y : Int32, y = xs (x3 + 2).toNatClampNeg := ⟨_, rfl⟩
  obtain ⟨y3, ey3⟩ : ∃ y : Int32, y = xs (x3 + 3).toNatClampNeg := ⟨_, rfl⟩
  obtain ⟨r, u2, μ2, hf1, hf2, hi2⟩ := hI N u μ y1 y2 y3 hi
  refine lv_aload_n (pc := 710) hx hb dL_law_710 rfl (lv_at hl 1 rfl) ?_
  refine lv_aload_n (pc := 711) hx hb dL_law_711 rfl (lv_at hl 0 rfl) ?_
  refine lv_iload_n (pc := 712) hx hb dL_law_712 rfl (lv_at hl 3 rfl) ?_
  refine lv_iconst (pc := 713) (v := 1) hx hb dL_law_713 (by decide) ?_
  refine lv_iadd (pc := 714) hx hb dL_law_714 ?_
  refine va_sld (pc := 715) hx hb hX hbl hbA h.2.2 hin1 dL_law_715 ?_
  refine rTop ey1 ?_
  refine lv_aload_n (pc := 716) hx hb dL_law_716 rfl (lv_at hl 0 rfl) ?_
  refine lv_iload_n (pc := 717) hx hb dL_law_717 rfl (lv_at hl 3 rfl) ?_
  refine lv_iconst (pc := 718) (v := 2) hx hb dL_law_718 (by decide) ?_
  refine lv_iadd (pc := 719) hx hb dL_law_719 ?_
  refine va_sld (pc := 720) hx hb hX hbl hbA h.2.2 hin2 dL_law_720 ?_
  refine rTop ey2 ?_
  refine lv_aload_n (pc := 721) hx hb dL_law_721 rfl (lv_at hl 0 rfl) ?_
  refine lv_iload_n (pc := 722) hx hb dL_law_722 rfl (lv_at hl 3 rfl) ?_
  refine lv_iconst (pc := 723) (v := 3) hx hb dL_law_723 (by decide) ?_
  refine lv_iadd (pc := 724) hx hb dL_law_724 ?_
  refine va_sld (pc := 725) hx hb hX hbl hbA h.2.2 hin3 dL_law_725 ?_
  refine rTop ey3 ?_
  refine lLi (pc := 726) (n := 3) hx hb hml hown hts hK hN (c_X11_plan hNN hf1) (gdV ml_L_91 im_X11_plan se_X11_plan in_X11 co_X11_plan) rfl (by decide +kernel) rfl (Nat.le_of_ble_eq_true rfl) (Nat.le_of_ble_eq_true rfl) h hA hl.1 ⟨show 100 + 16 * j ≤ 600000 by omega, show 2000 + 119 * j ≤ 7302250 by omega⟩ (Nat.lt_of_lt_of_le (by decide) hNN) rfl rfl rfl (Nat.le_of_ble_eq_true rfl) dL_law_726 (fun H locs h => ?_)
  refine lv_aload_n (pc := 729) hx hb dL_law_729 rfl (lv_at hl 2 rfl) ?_
  refine lv_aload_n (pc := 730) hx hb dL_law_730 rfl (lv_at hl 0 rfl) ?_
  refine lv_iload_n (pc := 731) hx hb dL_law_731 rfl (lv_at hl 3 rfl) ?_
  refine lv_iconst (pc := 732) (v := 1) hx hb dL_law_732 (by decide) ?_
  refine lv_iadd (pc := 733) hx hb dL_law_733 ?_
  refine va_sld (pc := 734) hx hb hX hbl hbA h.2.2 hin1 dL_law_734 ?_
  refine rTop ey1 ?_
  refine lv_aload_n (pc := 735) hx hb dL_law_735 rfl (lv_at hl 0 rfl) ?_
  refine lv_iload_n (pc := 736) hx hb dL_law_736 rfl (lv_at hl 3 rfl) ?_
  refine lv_iconst (pc := 737) (v := 2) hx hb dL_law_737 (by decide) ?_
  refine lv_iadd (pc := 738) hx hb dL_law_738 ?_
  refine va_sld (pc := 739) hx hb hX hbl hbA h.2.2 hin2 dL_law_739 ?_
  refine rTop ey2 ?_
  refine lv_aload_n (pc := 740) hx hb dL_law_740 rfl (lv_at hl 0 rfl) ?_
  refine lv_iload_n (pc := 741) hx hb dL_law_741 rfl (lv_at hl 3 rfl) ?_
  refine lv_iconst (pc := 742) (v := 3) hx hb dL_law_742 (by decide) ?_
  refine lv_iadd (pc := 743) hx hb dL_law_743 ?_
  refine va_sld (pc := 744) hx hb hX hbl hbA h.2.2 hin3 dL_law_744 ?_
  refine rTop ey3 ?_
  refine lRi (pc := 745) (n := 3) (rest := [.int r]) hx hb hml hown hts hKm hN (c_X12_plan hf2) (gdV ml_L_94 im_X12_plan se_X12_plan in_X12 co_X12_plan) rfl (by decide +kernel) rfl (Nat.le_of_ble_eq_true rfl) (Nat.le_of_ble_eq_true rfl) h hA hl.1 ⟨show 100 + 16 * j ≤ 600000 by omega, show 2000 + 119 * j ≤ 7302250 by omega⟩ (by decide) rfl rfl rfl (Nat.le_of_ble_eq_true rfl) dL_law_745 (fun H locs h => ?_)
  refine lv_icmp_eq (pc := 748) (tgt := 1302) hx hb dL_law_748 (by decide) (fun _ => ?_) (fun h9 => absurd rfl h9)
  refine W.widen (k := 100 + 16 * (j + 1)) (n := 2000 + 119 * (j + 1)) (by omega) (by omega) ?_
  exact hnext _ _ _ _ hi2 _ _ _ h hl

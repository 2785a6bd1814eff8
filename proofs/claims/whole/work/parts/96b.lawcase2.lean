/-! the law, case by case: the one half -/
theorem law_0 {p : Program} {l : Launch} {e : Env} {s : State} {m : MethodId} {args : Array Value} {below : List Frame} {meth : Method} {c : Code} {H : Heap} {locs : List Loc} {cells slots : Nat} {Q : State → Prop} {ls : Array Slot} {D : va_G} {cy : Nat → ClassId} {adK adV : Nat → Nat} {ax am b len i : Nat} {xs : Nat → Int32} (hC : gC p s m args meth c cL_law 4 RL D cy) (hEs : EZ s.heap.size adK adV s) (hXs : va_X b len xs s s.heap) (hbl : b < s.heap.size) (hlen : len ≤ 3072) (hi : i + 6 ≤ len) (hcl : cells + 4 ≤ 600000) (hsl : slots + 40 ≤ 7302250) (hS : LSt D cy s ax am H locs) (hl : lv_has ls 4 [(3, .int (nI i)), (2, .ref am), (1, .ref ax), (0, .ref b)]) (kk : ∀ (H1 : Heap) (locs1 : List Loc), LSt D cy s ax am H1 locs1 → W p l e room_1 s m args below meth c H1 locs1 (cells + 4) (slots + 40) Q (F0 m 1396 ls [])) : W p l e room_1 s m args below meth c H locs cells slots Q (F0 m 204 ls []) := by
  obtain ⟨adX, LX, x, W1, N, q, adM, mm, hH, hax, ham, hR, hq, hs, hl0, hB⟩ := hS
  have hXE : gX (fun q => s.heap.size ≤ q) s (EZ s.heap.size adK adV) := EZ_X (fun _ h => h) hEs
  have hEX := EZ_ok (adK := adK) (adV := adV) hH.2.2.2.2.2.1
  have hEM := EZ_ok (adK := adK) (adV := adV) hH.2.2.2.2.2.2.1
  obtain ⟨r, x1, mm1, ex, em, hR1⟩ := op_creak hR (xs (i + 1)) (xs (i + 2))
  refine lv_aload_n hC.x hC.b dL_law_204 rfl (lv_at hl 2 rfl) ?_
  refine L_arg (pc := 205) (k := 1) (n := 1) hC hXs hbl hH.2.2.2.2.2.2.2 hl rfl dL_law_205 dL_law_206 dL_law_207 dL_law_208 dL_law_209 (by omega) hlen ?_
  refine L_arg (pc := 210) (k := 2) (n := 2) hC hXs hbl hH.2.2.2.2.2.2.2 hl rfl dL_law_210 dL_law_211 dL_law_212 dL_law_213 dL_law_214 (by omega) hlen ?_
  refine L_X (R := room_1) (cells := cells) (slots := slots) (As := [.int (xs (i + 1)), .int (xs (i + 2))]) (rest := []) (q := (RX11, TX11, 13)) hC hXE EZ_bl hH hax (hl0 _ mX0) (c_X11_creak (l := l) hH.2.2.1 hl0 hEX ex) kw151 kw152 kw153 kw2 kw154 aL_X11_creak.1 aL_X11_creak.2 rfl rfl hl.1 ⟨Nat.le_of_ble_eq_true rfl, Nat.le_of_ble_eq_true rfl, (by show cells ≤ 600000; omega), (by show slots ≤ 7302250; omega)⟩ (Nat.le_of_ble_eq_true rfl) dL_law_215 (fun H locs hH => ?_)
  refine lv_aload_n hC.x hC.b dL_law_218 rfl (lv_at hl 1 rfl) ?_
  refine L_arg (pc := 219) (k := 1) (n := 1) hC hXs hbl hH.2.2.2.2.2.2.2 hl rfl dL_law_219 dL_law_220 dL_law_221 dL_law_222 dL_law_223 (by omega) hlen ?_
  refine L_arg (pc := 224) (k := 2) (n := 2) hC hXs hbl hH.2.2.2.2.2.2.2 hl rfl dL_law_224 dL_law_225 dL_law_226 dL_law_227 dL_law_228 (by omega) hlen ?_
  refine L_M (R := room_1) (cells := cells) (slots := slots) (As := [.int (xs (i + 1)), .int (xs (i + 2))]) (rest := [.int r]) (q := (RX12, TX12, 74)) hC hXE EZ_bl hH ham (c_X12_creak (l := l) hH.2.2.2.1 lmf_M0 hEM em) kw159 kw160 kw161 kw5 kw162 aL_X12_creak.1 aL_X12_creak.2 rfl rfl hl.1 ⟨Nat.le_of_ble_eq_true rfl, Nat.le_of_ble_eq_true rfl, (by show cells ≤ 600000; omega), (by show slots ≤ 7302250; omega)⟩ (Nat.le_of_ble_eq_true rfl) dL_law_229 (fun H locs hH => ?_)
  refine lv_icmp_eq (tgt := 1396) hC.x hC.b dL_law_232 (by decide) (fun _ => ?_) (fun z => absurd rfl z)
  refine W.widen (k := cells + 4) (n := slots + 40) (by omega) (by omega) ?_
  exact kk _ _ ⟨adX, LX, x1, W1, N, q, adM, mm1, hH, hax, ham, hR1, q_X11_creak hl0 hq _ _ ex, hs, hl0, hB⟩
theorem law_1 {p : Program} {l : Launch} {e : Env} {s : State} {m : MethodId} {args : Array Value} {below : List Frame} {meth : Method} {c : Code} {H : Heap} {locs : List Loc} {cells slots : Nat} {Q : State → Prop} {ls : Array Slot} {D : va_G} {cy : Nat → ClassId} {adK adV : Nat → Nat} {ax am b len i : Nat} {xs : Nat → Int32} (hC : gC p s m args meth c cL_law 4 RL D cy) (hEs : EZ s.heap.size adK adV s) (hXs : va_X b len xs s s.heap) (hbl : b < s.heap.size) (hlen : len ≤ 3072) (hi : i + 6 ≤ len) (hcl : cells + 4 ≤ 600000) (hsl : slots + 40 ≤ 7302250) (hS : LSt D cy s ax am H locs) (hl : lv_has ls 4 [(3, .int (nI i)), (2, .ref am), (1, .ref ax), (0, .ref b)]) (kk : ∀ (H1 : Heap) (locs1 : List Loc), LSt D cy s ax am H1 locs1 → W p l e room_1 s m args below meth c H1 locs1 (cells + 4) (slots + 40) Q (F0 m 1396 ls [])) : W p l e room_1 s m args below meth c H locs cells slots Q (F0 m 237 ls []) := by
  obtain ⟨adX, LX, x, W1, N, q, adM, mm, hH, hax, ham, hR, hq, hs, hl0, hB⟩ := hS
  have hXE : gX (fun q => s.heap.size ≤ q) s (EZ s.heap.size adK adV) := EZ_X (fun _ h => h) hEs
  have hEX := EZ_ok (adK := adK) (adV := adV) hH.2.2.2.2.2.1
  have hEM := EZ_ok (adK := adK) (adV := adV) hH.2.2.2.2.2.2.1
  by_cases hz : xs (i + 2) = 0
  · obtain ⟨r, x1, mm1, ex, em, hR1⟩ := op_toy hR (xs (i + 1)) (0 : Int32)
    refine lv_aload_n hC.x hC.b dL_law_237 rfl (lv_at hl 2 rfl) ?_
    refine L_arg (pc := 238) (k := 1) (n := 1) hC hXs hbl hH.2.2.2.2.2.2.2 hl rfl dL_law_238 dL_law_239 dL_law_240 dL_law_241 dL_law_242 (by omega) hlen ?_
    refine L_arg (pc := 243) (k := 2) (n := 2) hC hXs hbl hH.2.2.2.2.2.2.2 hl rfl dL_law_243 dL_law_244 dL_law_245 dL_law_246 dL_law_247 (by omega) hlen ?_
    refine lv_if_eq (tgt := 255) hC.x hC.b dL_law_248 (by decide) (fun _ => ?_) (fun z => absurd hz z)
    refine lv_iconst (v := (0 : Int32)) hC.x hC.b dL_law_255 rfl ?_
    refine L_X (R := room_1) (cells := cells) (slots := slots) (As := [.int (xs (i + 1)), .int (0 : Int32)]) (rest := []) (q := (RX11, TX11, 13)) hC hXE EZ_bl hH hax (hl0 _ mX0) (c_X11_toy (l := l) hH.2.2.1 hl0 hEX ex) kw171 kw172 kw173 kw2 kw174 aL_X11_toy.1 aL_X11_toy.2 rfl rfl hl.1 ⟨Nat.le_of_ble_eq_true rfl, Nat.le_of_ble_eq_true rfl, (by show cells ≤ 600000; omega), (by show slots ≤ 7302250; omega)⟩ (Nat.le_of_ble_eq_true rfl) dL_law_256 (fun H locs hH => ?_)
    refine lv_aload_n hC.x hC.b dL_law_259 rfl (lv_at hl 1 rfl) ?_
    refine L_arg (pc := 260) (k := 1) (n := 1) hC hXs hbl hH.2.2.2.2.2.2.2 hl rfl dL_law_260 dL_law_261 dL_law_262 dL_law_263 dL_law_264 (by omega) hlen ?_
    refine L_arg (pc := 265) (k := 2) (n := 2) hC hXs hbl hH.2.2.2.2.2.2.2 hl rfl dL_law_265 dL_law_266 dL_law_267 dL_law_268 dL_law_269 (by omega) hlen ?_
    refine lv_if_eq (tgt := 277) hC.x hC.b dL_law_270 (by decide) (fun _ => ?_) (fun z => absurd hz z)
    refine lv_iconst (v := (0 : Int32)) hC.x hC.b dL_law_277 rfl ?_
    refine L_M (R := room_1) (cells := cells) (slots := slots) (As := [.int (xs (i + 1)), .int (0 : Int32)]) (rest := [.int r]) (q := (RX12, TX12, 74)) hC hXE EZ_bl hH ham (c_X12_toy (l := l) hH.2.2.2.1 lmf_M0 hEM em) kw181 kw182 kw183 kw5 kw184 aL_X12_toy.1 aL_X12_toy.2 rfl rfl hl.1 ⟨Nat.le_of_ble_eq_true rfl, Nat.le_of_ble_eq_true rfl, (by show cells ≤ 600000; omega), (by show slots ≤ 7302250; omega)⟩ (Nat.le_of_ble_eq_true rfl) dL_law_278 (fun H locs hH => ?_)
    refine lv_icmp_eq (tgt := 1396) hC.x hC.b dL_law_281 (by decide) (fun _ => ?_) (fun z => absurd rfl z)
    refine W.widen (k := cells + 4) (n := slots + 40) (by omega) (by omega) ?_
    exact kk _ _ ⟨adX, LX, x1, W1, N, q, adM, mm1, hH, hax, ham, hR1, q_X11_toy hl0 hq _ _ ex, hs, hl0, hB⟩
  · obtain ⟨r, x1, mm1, ex, em, hR1⟩ := op_toy hR (xs (i + 1)) (1 : Int32)
    refine lv_aload_n hC.x hC.b dL_law_237 rfl (lv_at hl 2 rfl) ?_
    refine L_arg (pc := 238) (k := 1) (n := 1) hC hXs hbl hH.2.2.2.2.2.2.2 hl rfl dL_law_238 dL_law_239 dL_law_240 dL_law_241 dL_law_242 (by omega) hlen ?_
    refine L_arg (pc := 243) (k := 2) (n := 2) hC hXs hbl hH.2.2.2.2.2.2.2 hl rfl dL_law_243 dL_law_244 dL_law_245 dL_law_246 dL_law_247 (by omega) hlen ?_
    refine lv_if_eq (tgt := 255) hC.x hC.b dL_law_248 (by decide) (fun z => absurd z hz) (fun _ => ?_)
    refine lv_iconst (v := (1 : Int32)) hC.x hC.b dL_law_251 rfl ?_
    refine lv_goto (tgt := 256) hC.x hC.b dL_law_252 (by decide) ?_
    refine L_X (R := room_1) (cells := cells) (slots := slots) (As := [.int (xs (i + 1)), .int (1 : Int32)]) (rest := []) (q := (RX11, TX11, 13)) hC hXE EZ_bl hH hax (hl0 _ mX0) (c_X11_toy (l := l) hH.2.2.1 hl0 hEX ex) kw171 kw172 kw173 kw2 kw174 aL_X11_toy.1 aL_X11_toy.2 rfl rfl hl.1 ⟨Nat.le_of_ble_eq_true rfl, Nat.le_of_ble_eq_true rfl, (by show cells ≤ 600000; omega), (by show slots ≤ 7302250; omega)⟩ (Nat.le_of_ble_eq_true rfl) dL_law_256 (fun H locs hH => ?_)
    refine lv_aload_n hC.x hC.b dL_law_259 rfl (lv_at hl 1 rfl) ?_
    refine L_arg (pc := 260) (k := 1) (n := 1) hC hXs hbl hH.2.2.2.2.2.2.2 hl rfl dL_law_260 dL_law_261 dL_law_262 dL_law_263 dL_law_264 (by omega) hlen ?_
    refine L_arg (pc := 265) (k := 2) (n := 2) hC hXs hbl hH.2.2.2.2.2.2.2 hl rfl dL_law_265 dL_law_266 dL_law_267 dL_law_268 dL_law_269 (by omega) hlen ?_
    refine lv_if_eq (tgt := 277) hC.x hC.b dL_law_270 (by decide) (fun z => absurd z hz) (fun _ => ?_)
    refine lv_iconst (v := (1 : Int32)) hC.x hC.b dL_law_273 rfl ?_
    refine lv_goto (tgt := 278) hC.x hC.b dL_law_274 (by decide) ?_
    refine L_M (R := room_1) (cells := cells) (slots := slots) (As := [.int (xs (i + 1)), .int (1 : Int32)]) (rest := [.int r]) (q := (RX12, TX12, 74)) hC hXE EZ_bl hH ham (c_X12_toy (l := l) hH.2.2.2.1 lmf_M0 hEM em) kw181 kw182 kw183 kw5 kw184 aL_X12_toy.1 aL_X12_toy.2 rfl rfl hl.1 ⟨Nat.le_of_ble_eq_true rfl, Nat.le_of_ble_eq_true rfl, (by show cells ≤ 600000; omega), (by show slots ≤ 7302250; omega)⟩ (Nat.le_of_ble_eq_true rfl) dL_law_278 (fun H locs hH => ?_)
    refine lv_icmp_eq (tgt := 1396) hC.x hC.b dL_law_281 (by decide) (fun _ => ?_) (fun z => absurd rfl z)
    refine W.widen (k := cells + 4) (n := slots + 40) (by omega) (by omega) ?_
    exact kk _ _ ⟨adX, LX, x1, W1, N, q, adM, mm1, hH, hax, ham, hR1, q_X11_toy hl0 hq _ _ ex, hs, hl0, hB⟩
theorem law_2 {p : Program} {l : Launch} {e : Env} {s : State} {m : MethodId} {args : Array Value} {below : List Frame} {meth : Method} {c : Code} {H : Heap} {locs : List Loc} {cells slots : Nat} {Q : State → Prop} {ls : Array Slot} {D : va_G} {cy : Nat → ClassId} {adK adV : Nat → Nat} {ax am b len i : Nat} {xs : Nat → Int32} (hC : gC p s m args meth c cL_law 4 RL D cy) (hEs : EZ s.heap.size adK adV s) (hXs : va_X b len xs s s.heap) (hbl : b < s.heap.size) (hlen : len ≤ 3072) (hi : i + 6 ≤ len) (hcl : cells + 4 ≤ 600000) (hsl : slots + 40 ≤ 7302250) (hS : LSt D cy s ax am H locs) (hl : lv_has ls 4 [(3, .int (nI i)), (2, .ref am), (1, .ref ax), (0, .ref b)]) (kk : ∀ (H1 : Heap) (locs1 : List Loc), LSt D cy s ax am H1 locs1 → W p l e room_1 s m args below meth c H1 locs1 (cells + 4) (slots + 40) Q (F0 m 1396 ls [])) : W p l e room_1 s m args below meth c H locs cells slots Q (F0 m 286 ls []) := by
  obtain ⟨adX, LX, x, W1, N, q, adM, mm, hH, hax, ham, hR, hq, hs, hl0, hB⟩ := hS
  have hXE : gX (fun q => s.heap.size ≤ q) s (EZ s.heap.size adK adV) := EZ_X (fun _ h => h) hEs
  have hEX := EZ_ok (adK := adK) (adV := adV) hH.2.2.2.2.2.1
  have hEM := EZ_ok (adK := adK) (adV := adV) hH.2.2.2.2.2.2.1
  obtain ⟨r, x1, mm1, ex, em, hR1⟩ := op_door hR (xs (i + 1))
  refine lv_aload_n hC.x hC.b dL_law_286 rfl (lv_at hl 2 rfl) ?_
  refine L_arg (pc := 287) (k := 1) (n := 1) hC hXs hbl hH.2.2.2.2.2.2.2 hl rfl dL_law_287 dL_law_288 dL_law_289 dL_law_290 dL_law_291 (by omega) hlen ?_
  refine L_X (R := room_1) (cells := cells) (slots := slots) (As := [.int (xs (i + 1))]) (rest := []) (q := (RX11, TX11, 13)) hC hXE EZ_bl hH hax (hl0 _ mX0) (c_X11_door (l := l) hH.2.2.1 hl0 hEX ex) kw185 kw186 kw187 kw2 kw188 aL_X11_door.1 aL_X11_door.2 rfl rfl hl.1 ⟨Nat.le_of_ble_eq_true rfl, Nat.le_of_ble_eq_true rfl, (by show cells ≤ 600000; omega), (by show slots ≤ 7302250; omega)⟩ (Nat.le_of_ble_eq_true rfl) dL_law_292 (fun H locs hH => ?_)
  refine lv_aload_n hC.x hC.b dL_law_295 rfl (lv_at hl 1 rfl) ?_
  refine L_arg (pc := 296) (k := 1) (n := 1) hC hXs hbl hH.2.2.2.2.2.2.2 hl rfl dL_law_296 dL_law_297 dL_law_298 dL_law_299 dL_law_300 (by omega) hlen ?_
  refine L_M (R := room_1) (cells := cells) (slots := slots) (As := [.int (xs (i + 1))]) (rest := [.int r]) (q := (RX12, TX12, 74)) hC hXE EZ_bl hH ham (c_X12_door (l := l) hH.2.2.2.1 lmf_M0 hEM em) kw190 kw191 kw192 kw5 kw193 aL_X12_door.1 aL_X12_door.2 rfl rfl hl.1 ⟨Nat.le_of_ble_eq_true rfl, Nat.le_of_ble_eq_true rfl, (by show cells ≤ 600000; omega), (by show slots ≤ 7302250; omega)⟩ (Nat.le_of_ble_eq_true rfl) dL_law_301 (fun H locs hH => ?_)
  refine lv_icmp_eq (tgt := 1396) hC.x hC.b dL_law_304 (by decide) (fun _ => ?_) (fun z => absurd rfl z)
  refine W.widen (k := cells + 4) (n := slots + 40) (by omega) (by omega) ?_
  exact kk _ _ ⟨adX, LX, x1, W1, N, q, adM, mm1, hH, hax, ham, hR1, q_X11_door hl0 hq _ _ ex, hs, hl0, hB⟩
theorem law_4 {p : Program} {l : Launch} {e : Env} {s : State} {m : MethodId} {args : Array Value} {below : List Frame} {meth : Method} {c : Code} {H : Heap} {locs : List Loc} {cells slots : Nat} {Q : State → Prop} {ls : Array Slot} {D : va_G} {cy : Nat → ClassId} {adK adV : Nat → Nat} {ax am b len i : Nat} {xs : Nat → Int32} (hC : gC p s m args meth c cL_law 4 RL D cy) (hEs : EZ s.heap.size adK adV s) (hXs : va_X b len xs s s.heap) (hbl : b < s.heap.size) (hlen : len ≤ 3072) (hi : i + 6 ≤ len) (hcl : cells + 4 ≤ 600000) (hsl : slots + 40 ≤ 7302250) (hS : LSt D cy s ax am H locs) (hl : lv_has ls 4 [(3, .int (nI i)), (2, .ref am), (1, .ref ax), (0, .ref b)]) (kk : ∀ (H1 : Heap) (locs1 : List Loc), LSt D cy s ax am H1 locs1 → W p l e room_1 s m args below meth c H1 locs1 (cells + 4) (slots + 40) Q (F0 m 1396 ls [])) : W p l e room_1 s m args below meth c H locs cells slots Q (F0 m 352 ls []) := by
  obtain ⟨adX, LX, x, W1, N, q, adM, mm, hH, hax, ham, hR, hq, hs, hl0, hB⟩ := hS
  have hXE : gX (fun q => s.heap.size ≤ q) s (EZ s.heap.size adK adV) := EZ_X (fun _ h => h) hEs
  have hEX := EZ_ok (adK := adK) (adV := adV) hH.2.2.2.2.2.1
  have hEM := EZ_ok (adK := adK) (adV := adV) hH.2.2.2.2.2.2.1
  obtain ⟨r, x1, mm1, ex, em, hR1⟩ := op_of hR (xs (i + 1)) (xs (i + 2))
  refine lv_aload_n hC.x hC.b dL_law_352 rfl (lv_at hl 2 rfl) ?_
  refine L_arg (pc := 353) (k := 1) (n := 1) hC hXs hbl hH.2.2.2.2.2.2.2 hl rfl dL_law_353 dL_law_354 dL_law_355 dL_law_356 dL_law_357 (by omega) hlen ?_
  refine L_arg (pc := 358) (k := 2) (n := 2) hC hXs hbl hH.2.2.2.2.2.2.2 hl rfl dL_law_358 dL_law_359 dL_law_360 dL_law_361 dL_law_362 (by omega) hlen ?_
  refine L_X (R := room_1) (cells := cells) (slots := slots) (As := [.int (xs (i + 1)), .int (xs (i + 2))]) (rest := []) (q := (RX11, TX11, 13)) hC hXE EZ_bl hH hax (hl0 _ mX0) (c_X11_of (l := l) hH.2.2.1 hl0 hEX ex) kw260 kw261 kw262 kw2 kw263 aL_X11_of.1 aL_X11_of.2 rfl rfl hl.1 ⟨Nat.le_of_ble_eq_true rfl, Nat.le_of_ble_eq_true rfl, (by show cells ≤ 600000; omega), (by show slots ≤ 7302250; omega)⟩ (Nat.le_of_ble_eq_true rfl) dL_law_363 (fun H locs hH => ?_)
  refine lv_aload_n hC.x hC.b dL_law_366 rfl (lv_at hl 1 rfl) ?_
  refine L_arg (pc := 367) (k := 1) (n := 1) hC hXs hbl hH.2.2.2.2.2.2.2 hl rfl dL_law_367 dL_law_368 dL_law_369 dL_law_370 dL_law_371 (by omega) hlen ?_
  refine L_arg (pc := 372) (k := 2) (n := 2) hC hXs hbl hH.2.2.2.2.2.2.2 hl rfl dL_law_372 dL_law_373 dL_law_374 dL_law_375 dL_law_376 (by omega) hlen ?_
  refine L_M (R := room_1) (cells := cells) (slots := slots) (As := [.int (xs (i + 1)), .int (xs (i + 2))]) (rest := [.int r]) (q := (RX12, TX12, 74)) hC hXE EZ_bl hH ham (c_X12_of (l := l) hH.2.2.2.1 lmf_M0 hEM em) kw372 kw373 kw374 kw5 kw375 aL_X12_of.1 aL_X12_of.2 rfl rfl hl.1 ⟨Nat.le_of_ble_eq_true rfl, Nat.le_of_ble_eq_true rfl, (by show cells ≤ 600000; omega), (by show slots ≤ 7302250; omega)⟩ (Nat.le_of_ble_eq_true rfl) dL_law_377 (fun H locs hH => ?_)
  refine lv_icmp_eq (tgt := 1396) hC.x hC.b dL_law_380 (by decide) (fun _ => ?_) (fun z => absurd rfl z)
  refine W.widen (k := cells + 4) (n := slots + 40) (by omega) (by omega) ?_
  exact kk _ _ ⟨adX, LX, x1, W1, N, q, adM, mm1, hH, hax, ham, hR1, q_X11_of hl0 hq _ _ ex, hs, hl0, hB⟩
theorem law_5 {p : Program} {l : Launch} {e : Env} {s : State} {m : MethodId} {args : Array Value} {below : List Frame} {meth : Method} {c : Code} {H : Heap} {locs : List Loc} {cells slots : Nat} {Q : State → Prop} {ls : Array Slot} {D : va_G} {cy : Nat → ClassId} {adK adV : Nat → Nat} {ax am b len i : Nat} {xs : Nat → Int32} (hC : gC p s m args meth c cL_law 4 RL D cy) (hEs : EZ s.heap.size adK adV s) (hXs : va_X b len xs s s.heap) (hbl : b < s.heap.size) (hlen : len ≤ 3072) (hi : i + 6 ≤ len) (hcl : cells + 4 ≤ 600000) (hsl : slots + 40 ≤ 7302250) (hS : LSt D cy s ax am H locs) (hl : lv_has ls 4 [(3, .int (nI i)), (2, .ref am), (1, .ref ax), (0, .ref b)]) (kk : ∀ (H1 : Heap) (locs1 : List Loc), LSt D cy s ax am H1 locs1 → W p l e room_1 s m args below meth c H1 locs1 (cells + 4) (slots + 40) Q (F0 m 1396 ls [])) : W p l e room_1 s m args below meth c H locs cells slots Q (F0 m 385 ls []) := by
  obtain ⟨adX, LX, x, W1, N, q, adM, mm, hH, hax, ham, hR, hq, hs, hl0, hB⟩ := hS
  have hXE : gX (fun q => s.heap.size ≤ q) s (EZ s.heap.size adK adV) := EZ_X (fun _ h => h) hEs
  have hEX := EZ_ok (adK := adK) (adV := adV) hH.2.2.2.2.2.1
  have hEM := EZ_ok (adK := adK) (adV := adV) hH.2.2.2.2.2.2.1
  obtain ⟨r, x1, mm1, ex, em, hR1⟩ := op_put hR (xs (i + 1)) (xs (i + 2))
  refine lv_aload_n hC.x hC.b dL_law_385 rfl (lv_at hl 2 rfl) ?_
  refine L_arg (pc := 386) (k := 1) (n := 1) hC hXs hbl hH.2.2.2.2.2.2.2 hl rfl dL_law_386 dL_law_387 dL_law_388 dL_law_389 dL_law_390 (by omega) hlen ?_
  refine L_arg (pc := 391) (k := 2) (n := 2) hC hXs hbl hH.2.2.2.2.2.2.2 hl rfl dL_law_391 dL_law_392 dL_law_393 dL_law_394 dL_law_395 (by omega) hlen ?_
  refine L_X (R := room_1) (cells := cells) (slots := slots) (As := [.int (xs (i + 1)), .int (xs (i + 2))]) (rest := []) (q := (RX11, TX11, 13)) hC hXE EZ_bl hH hax (hl0 _ mX0) (c_X11_put (l := l) hH.2.2.1 hl0 hEX ex) kw416 kw417 kw418 kw2 kw419 aL_X11_put.1 aL_X11_put.2 rfl rfl hl.1 ⟨Nat.le_of_ble_eq_true rfl, Nat.le_of_ble_eq_true rfl, (by show cells ≤ 600000; omega), (by show slots ≤ 7302250; omega)⟩ (Nat.le_of_ble_eq_true rfl) dL_law_396 (fun H locs hH => ?_)
  refine lv_aload_n hC.x hC.b dL_law_399 rfl (lv_at hl 1 rfl) ?_
  refine L_arg (pc := 400) (k := 1) (n := 1) hC hXs hbl hH.2.2.2.2.2.2.2 hl rfl dL_law_400 dL_law_401 dL_law_402 dL_law_403 dL_law_404 (by omega) hlen ?_
  refine L_arg (pc := 405) (k := 2) (n := 2) hC hXs hbl hH.2.2.2.2.2.2.2 hl rfl dL_law_405 dL_law_406 dL_law_407 dL_law_408 dL_law_409 (by omega) hlen ?_
  refine L_M (R := room_1) (cells := cells) (slots := slots) (As := [.int (xs (i + 1)), .int (xs (i + 2))]) (rest := [.int r]) (q := (RX12, TX12, 74)) hC hXE EZ_bl hH ham (c_X12_put (l := l) hH.2.2.2.1 lmf_M0 hEM em) kw420 kw421 kw422 kw5 kw423 aL_X12_put.1 aL_X12_put.2 rfl rfl hl.1 ⟨Nat.le_of_ble_eq_true rfl, Nat.le_of_ble_eq_true rfl, (by show cells ≤ 600000; omega), (by show slots ≤ 7302250; omega)⟩ (Nat.le_of_ble_eq_true rfl) dL_law_410 (fun H locs hH => ?_)
  refine lv_icmp_eq (tgt := 1396) hC.x hC.b dL_law_413 (by decide) (fun _ => ?_) (fun z => absurd rfl z)
  refine W.widen (k := cells + 4) (n := slots + 40) (by omega) (by omega) ?_
  exact kk _ _ ⟨adX, LX, x1, W1, N, q, adM, mm1, hH, hax, ham, hR1, q_X11_put hl0 hq _ _ ex, hs, hl0, hB⟩
theorem law_6 {p : Program} {l : Launch} {e : Env} {s : State} {m : MethodId} {args : Array Value} {below : List Frame} {meth : Method} {c : Code} {H : Heap} {locs : List Loc} {cells slots : Nat} {Q : State → Prop} {ls : Array Slot} {D : va_G} {cy : Nat → ClassId} {adK adV : Nat → Nat} {ax am b len i : Nat} {xs : Nat → Int32} (hC : gC p s m args meth c cL_law 4 RL D cy) (hEs : EZ s.heap.size adK adV s) (hXs : va_X b len xs s s.heap) (hbl : b < s.heap.size) (hlen : len ≤ 3072) (hi : i + 6 ≤ len) (hcl : cells + 4 ≤ 600000) (hsl : slots + 40 ≤ 7302250) (hS : LSt D cy s ax am H locs) (hl : lv_has ls 4 [(3, .int (nI i)), (2, .ref am), (1, .ref ax), (0, .ref b)]) (kk : ∀ (H1 : Heap) (locs1 : List Loc), LSt D cy s ax am H1 locs1 → W p l e room_1 s m args below meth c H1 locs1 (cells + 4) (slots + 40) Q (F0 m 1396 ls [])) : W p l e room_1 s m args below meth c H locs cells slots Q (F0 m 418 ls []) := by
  obtain ⟨adX, LX, x, W1, N, q, adM, mm, hH, hax, ham, hR, hq, hs, hl0, hB⟩ := hS
  have hXE : gX (fun q => s.heap.size ≤ q) s (EZ s.heap.size adK adV) := EZ_X (fun _ h => h) hEs
  have hEX := EZ_ok (adK := adK) (adV := adV) hH.2.2.2.2.2.1
  have hEM := EZ_ok (adK := adK) (adV := adV) hH.2.2.2.2.2.2.1
  obtain ⟨r, x1, mm1, ex, em, hR1⟩ := op_row hR (xs (i + 1)) (xs (i + 2)) (xs (i + 3))
  refine lv_aload_n hC.x hC.b dL_law_418 rfl (lv_at hl 2 rfl) ?_
  refine L_arg (pc := 419) (k := 1) (n := 1) hC hXs hbl hH.2.2.2.2.2.2.2 hl rfl dL_law_419 dL_law_420 dL_law_421 dL_law_422 dL_law_423 (by omega) hlen ?_
  refine L_arg (pc := 424) (k := 2) (n := 2) hC hXs hbl hH.2.2.2.2.2.2.2 hl rfl dL_law_424 dL_law_425 dL_law_426 dL_law_427 dL_law_428 (by omega) hlen ?_
  refine L_arg (pc := 429) (k := 3) (n := 3) hC hXs hbl hH.2.2.2.2.2.2.2 hl rfl dL_law_429 dL_law_430 dL_law_431 dL_law_432 dL_law_433 (by omega) hlen ?_
  refine L_X (R := room_1) (cells := cells) (slots := slots) (As := [.int (xs (i + 1)), .int (xs (i + 2)), .int (xs (i + 3))]) (rest := []) (q := (RX11, TX11, 13)) hC hXE EZ_bl hH hax (hl0 _ mX0) (c_X11_row (l := l) hH.2.2.1 hl0 hEX ex) kw424 kw425 kw426 kw2 kw427 aL_X11_row.1 aL_X11_row.2 rfl rfl hl.1 ⟨Nat.le_of_ble_eq_true rfl, Nat.le_of_ble_eq_true rfl, (by show cells ≤ 600000; omega), (by show slots ≤ 7302250; omega)⟩ (Nat.le_of_ble_eq_true rfl) dL_law_434 (fun H locs hH => ?_)
  refine lv_aload_n hC.x hC.b dL_law_437 rfl (lv_at hl 1 rfl) ?_
  refine L_arg (pc := 438) (k := 1) (n := 1) hC hXs hbl hH.2.2.2.2.2.2.2 hl rfl dL_law_438 dL_law_439 dL_law_440 dL_law_441 dL_law_442 (by omega) hlen ?_
  refine L_arg (pc := 443) (k := 2) (n := 2) hC hXs hbl hH.2.2.2.2.2.2.2 hl rfl dL_law_443 dL_law_444 dL_law_445 dL_law_446 dL_law_447 (by omega) hlen ?_
  refine L_arg (pc := 448) (k := 3) (n := 3) hC hXs hbl hH.2.2.2.2.2.2.2 hl rfl dL_law_448 dL_law_449 dL_law_450 dL_law_451 dL_law_452 (by omega) hlen ?_
  refine L_M (R := room_1) (cells := cells) (slots := slots) (As := [.int (xs (i + 1)), .int (xs (i + 2)), .int (xs (i + 3))]) (rest := [.int r]) (q := (RX12, TX12, 74)) hC hXE EZ_bl hH ham (c_X12_row (l := l) hH.2.2.2.1 lmf_M0 hEM em) kw430 kw431 kw432 kw5 kw433 aL_X12_row.1 aL_X12_row.2 rfl rfl hl.1 ⟨Nat.le_of_ble_eq_true rfl, Nat.le_of_ble_eq_true rfl, (by show cells ≤ 600000; omega), (by show slots ≤ 7302250; omega)⟩ (Nat.le_of_ble_eq_true rfl) dL_law_453 (fun H locs hH => ?_)
  refine lv_icmp_eq (tgt := 1396) hC.x hC.b dL_law_456 (by decide) (fun _ => ?_) (fun z => absurd rfl z)
  refine W.widen (k := cells + 4) (n := slots + 40) (by omega) (by omega) ?_
  exact kk _ _ ⟨adX, LX, x1, W1, N, q, adM, mm1, hH, hax, ham, hR1, q_X11_row hl0 hq _ _ ex, hs, hl0, hB⟩
theorem law_7 {p : Program} {l : Launch} {e : Env} {s : State} {m : MethodId} {args : Array Value} {below : List Frame} {meth : Method} {c : Code} {H : Heap} {locs : List Loc} {cells slots : Nat} {Q : State → Prop} {ls : Array Slot} {D : va_G} {cy : Nat → ClassId} {adK adV : Nat → Nat} {ax am b len i : Nat} {xs : Nat → Int32} (hC : gC p s m args meth c cL_law 4 RL D cy) (hEs : EZ s.heap.size adK adV s) (hXs : va_X b len xs s s.heap) (hbl : b < s.heap.size) (hlen : len ≤ 3072) (hi : i + 6 ≤ len) (hcl : cells + 4 ≤ 600000) (hsl : slots + 40 ≤ 7302250) (hS : LSt D cy s ax am H locs) (hl : lv_has ls 4 [(3, .int (nI i)), (2, .ref am), (1, .ref ax), (0, .ref b)]) (kk : ∀ (H1 : Heap) (locs1 : List Loc), LSt D cy s ax am H1 locs1 → W p l e room_1 s m args below meth c H1 locs1 (cells + 4) (slots + 40) Q (F0 m 1396 ls [])) : W p l e room_1 s m args below meth c H locs cells slots Q (F0 m 461 ls []) := by
  obtain ⟨adX, LX, x, W1, N, q, adM, mm, hH, hax, ham, hR, hq, hs, hl0, hB⟩ := hS
  have hXE : gX (fun q => s.heap.size ≤ q) s (EZ s.heap.size adK adV) := EZ_X (fun _ h => h) hEs
  have hEX := EZ_ok (adK := adK) (adV := adV) hH.2.2.2.2.2.1
  have hEM := EZ_ok (adK := adK) (adV := adV) hH.2.2.2.2.2.2.1
  obtain ⟨r, x1, mm1, ex, em, hR1⟩ := op_feed hR (xs (i + 1))
  refine lv_aload_n hC.x hC.b dL_law_461 rfl (lv_at hl 2 rfl) ?_
  refine L_arg (pc := 462) (k := 1) (n := 1) hC hXs hbl hH.2.2.2.2.2.2.2 hl rfl dL_law_462 dL_law_463 dL_law_464 dL_law_465 dL_law_466 (by omega) hlen ?_
  refine L_X (R := room_1) (cells := cells) (slots := slots) (As := [.int (xs (i + 1))]) (rest := []) (q := (RX11, TX11, 13)) hC hXE EZ_bl hH hax (hl0 _ mX0) (c_X11_feed (l := l) hH.2.2.1 hl0 hEX ex) kw434 kw435 kw436 kw2 kw437 aL_X11_feed.1 aL_X11_feed.2 rfl rfl hl.1 ⟨Nat.le_of_ble_eq_true rfl, Nat.le_of_ble_eq_true rfl, (by show cells ≤ 600000; omega), (by show slots ≤ 7302250; omega)⟩ (Nat.le_of_ble_eq_true rfl) dL_law_467 (fun H locs hH => ?_)
  refine lv_aload_n hC.x hC.b dL_law_470 rfl (lv_at hl 1 rfl) ?_
  refine L_arg (pc := 471) (k := 1) (n := 1) hC hXs hbl hH.2.2.2.2.2.2.2 hl rfl dL_law_471 dL_law_472 dL_law_473 dL_law_474 dL_law_475 (by omega) hlen ?_
  refine L_M (R := room_1) (cells := cells) (slots := slots) (As := [.int (xs (i + 1))]) (rest := [.int r]) (q := (RX12, TX12, 74)) hC hXE EZ_bl hH ham (c_X12_feed (l := l) hH.2.2.2.1 lmf_M0 hEM em) kw444 kw445 kw446 kw5 kw447 aL_X12_feed.1 aL_X12_feed.2 rfl rfl hl.1 ⟨Nat.le_of_ble_eq_true rfl, Nat.le_of_ble_eq_true rfl, (by show cells ≤ 600000; omega), (by show slots ≤ 7302250; omega)⟩ (Nat.le_of_ble_eq_true rfl) dL_law_476 (fun H locs hH => ?_)
  refine lv_icmp_eq (tgt := 1396) hC.x hC.b dL_law_479 (by decide) (fun _ => ?_) (fun z => absurd rfl z)
  refine W.widen (k := cells + 4) (n := slots + 40) (by omega) (by omega) ?_
  exact kk _ _ ⟨adX, LX, x1, W1, N, q, adM, mm1, hH, hax, ham, hR1, q_X11_feed hl0 hq _ _ ex, hs, hl0, hB⟩
theorem law_8 {p : Program} {l : Launch} {e : Env} {s : State} {m : MethodId} {args : Array Value} {below : List Frame} {meth : Method} {c : Code} {H : Heap} {locs : List Loc} {cells slots : Nat} {Q : State → Prop} {ls : Array Slot} {D : va_G} {cy : Nat → ClassId} {adK adV : Nat → Nat} {ax am b len i : Nat} {xs : Nat → Int32} (hC : gC p s m args meth c cL_law 4 RL D cy) (hEs : EZ s.heap.size adK adV s) (hXs : va_X b len xs s s.heap) (hbl : b < s.heap.size) (hlen : len ≤ 3072) (hi : i + 6 ≤ len) (hcl : cells + 4 ≤ 600000) (hsl : slots + 40 ≤ 7302250) (hS : LSt D cy s ax am H locs) (hl : lv_has ls 4 [(3, .int (nI i)), (2, .ref am), (1, .ref ax), (0, .ref b)]) (kk : ∀ (H1 : Heap) (locs1 : List Loc), LSt D cy s ax am H1 locs1 → W p l e room_1 s m args below meth c H1 locs1 (cells + 4) (slots + 40) Q (F0 m 1396 ls [])) : W p l e room_1 s m args below meth c H locs cells slots Q (F0 m 484 ls []) := by
  obtain ⟨adX, LX, x, W1, N, q, adM, mm, hH, hax, ham, hR, hq, hs, hl0, hB⟩ := hS
  have hXE : gX (fun q => s.heap.size ≤ q) s (EZ s.heap.size adK adV) := EZ_X (fun _ h => h) hEs
  have hEX := EZ_ok (adK := adK) (adV := adV) hH.2.2.2.2.2.1
  have hEM := EZ_ok (adK := adK) (adV := adV) hH.2.2.2.2.2.2.1
  have hSS : ∀ U : State, EZ s.heap.size adK adV U → gS (gA adX LX) adK adV U := fun U h => EZ_S hH.2.2.2.2.2.1 h
  obtain ⟨N1, r, x1, mm1, ex, em, hR1⟩ := op_night hR
  refine lv_aload_n hC.x hC.b dL_law_484 rfl (lv_at hl 2 rfl) ?_
  refine L_X (R := room_1) (cells := cells) (slots := slots) (As := []) (rest := []) (q := (RX11, TX11, 13)) hC hXE EZ_bl hH hax (hl0 _ mX0) (c_X11_night (l := l) hH.2.2.1 hl0 hEX hSS ex) kw448 kw449 kw450 kw2 kw451 aL_X11_night.1 aL_X11_night.2 rfl rfl hl.1 ⟨Nat.le_of_ble_eq_true rfl, Nat.le_of_ble_eq_true rfl, (by show cells ≤ 600000; omega), (by show slots ≤ 7302250; omega)⟩ (Nat.le_of_ble_eq_true rfl) dL_law_485 (fun H locs hH => ?_)
  refine lv_aload_n hC.x hC.b dL_law_488 rfl (lv_at hl 1 rfl) ?_
  refine L_M (R := room_1) (cells := cells) (slots := slots) (As := []) (rest := [.int r]) (q := (RX12, TX12, 74)) hC hXE EZ_bl hH ham (c_X12_night (l := l) hH.2.2.2.1 lmf_M0 hEM em) kw629 kw630 kw631 kw5 kw632 aL_X12_night.1 aL_X12_night.2 rfl rfl hl.1 ⟨Nat.le_of_ble_eq_true rfl, Nat.le_of_ble_eq_true rfl, (by show cells ≤ 600000; omega), (by show slots ≤ 7302250; omega)⟩ (Nat.le_of_ble_eq_true rfl) dL_law_489 (fun H locs hH => ?_)
  refine lv_icmp_eq (tgt := 1396) hC.x hC.b dL_law_492 (by decide) (fun _ => ?_) (fun z => absurd rfl z)
  refine W.widen (k := cells + 4) (n := slots + 40) (by omega) (by omega) ?_
  exact kk _ _ ⟨adX, LX, x1, W1, N1, q, adM, mm1, hH, hax, ham, hR1, q_X11_night hl0 hq _ _ ex, hs, hl0, hB⟩
theorem law_9 {p : Program} {l : Launch} {e : Env} {s : State} {m : MethodId} {args : Array Value} {below : List Frame} {meth : Method} {c : Code} {H : Heap} {locs : List Loc} {cells slots : Nat} {Q : State → Prop} {ls : Array Slot} {D : va_G} {cy : Nat → ClassId} {adK adV : Nat → Nat} {ax am b len i : Nat} {xs : Nat → Int32} (hC : gC p s m args meth c cL_law 4 RL D cy) (hEs : EZ s.heap.size adK adV s) (hXs : va_X b len xs s s.heap) (hbl : b < s.heap.size) (hlen : len ≤ 3072) (hi : i + 6 ≤ len) (hcl : cells + 4 ≤ 600000) (hsl : slots + 40 ≤ 7302250) (hS : LSt D cy s ax am H locs) (hl : lv_has ls 4 [(3, .int (nI i)), (2, .ref am), (1, .ref ax), (0, .ref b)]) (kk : ∀ (H1 : Heap) (locs1 : List Loc), LSt D cy s ax am H1 locs1 → W p l e room_1 s m args below meth c H1 locs1 (cells + 4) (slots + 40) Q (F0 m 1396 ls [])) : W p l e room_1 s m args below meth c H locs cells slots Q (F0 m 497 ls []) := by
  obtain ⟨adX, LX, x, W1, N, q, adM, mm, hH, hax, ham, hR, hq, hs, hl0, hB⟩ := hS
  have hXE : gX (fun q => s.heap.size ≤ q) s (EZ s.heap.size adK adV) := EZ_X (fun _ h => h) hEs
  have hEX := EZ_ok (adK := adK) (adV := adV) hH.2.2.2.2.2.1
  have hEM := EZ_ok (adK := adK) (adV := adV) hH.2.2.2.2.2.2.1
  obtain ⟨r, x1, mm1, ex, em, hR1⟩ := op_told hR (xs (i + 1))
  refine lv_aload_n hC.x hC.b dL_law_497 rfl (lv_at hl 2 rfl) ?_
  refine L_arg (pc := 498) (k := 1) (n := 1) hC hXs hbl hH.2.2.2.2.2.2.2 hl rfl dL_law_498 dL_law_499 dL_law_500 dL_law_501 dL_law_502 (by omega) hlen ?_
  refine L_X (R := room_1) (cells := cells) (slots := slots) (As := [.int (xs (i + 1))]) (rest := []) (q := (RX11, TX11, 13)) hC hXE EZ_bl hH hax (hl0 _ mX0) (c_X11_told (l := l) hH.2.2.1 hl0 hEX ex) kw689 kw690 kw691 kw2 kw692 aL_X11_told.1 aL_X11_told.2 rfl rfl hl.1 ⟨Nat.le_of_ble_eq_true rfl, Nat.le_of_ble_eq_true rfl, (by show cells ≤ 600000; omega), (by show slots ≤ 7302250; omega)⟩ (Nat.le_of_ble_eq_true rfl) dL_law_503 (fun H locs hH => ?_)
  refine lv_aload_n hC.x hC.b dL_law_506 rfl (lv_at hl 1 rfl) ?_
  refine L_arg (pc := 507) (k := 1) (n := 1) hC hXs hbl hH.2.2.2.2.2.2.2 hl rfl dL_law_507 dL_law_508 dL_law_509 dL_law_510 dL_law_511 (by omega) hlen ?_
  refine L_M (R := room_1) (cells := cells) (slots := slots) (As := [.int (xs (i + 1))]) (rest := [.int r]) (q := (RX12, TX12, 74)) hC hXE EZ_bl hH ham (c_X12_told (l := l) hH.2.2.2.1 lmf_M0 hEM em) kw703 kw704 kw705 kw5 kw706 aL_X12_told.1 aL_X12_told.2 rfl rfl hl.1 ⟨Nat.le_of_ble_eq_true rfl, Nat.le_of_ble_eq_true rfl, (by show cells ≤ 600000; omega), (by show slots ≤ 7302250; omega)⟩ (Nat.le_of_ble_eq_true rfl) dL_law_512 (fun H locs hH => ?_)
  refine lv_icmp_eq (tgt := 1396) hC.x hC.b dL_law_515 (by decide) (fun _ => ?_) (fun z => absurd rfl z)
  refine W.widen (k := cells + 4) (n := slots + 40) (by omega) (by omega) ?_
  exact kk _ _ ⟨adX, LX, x1, W1, N, q, adM, mm1, hH, hax, ham, hR1, q_X11_told hl0 hq _ _ ex, hs, hl0, hB⟩
theorem law_10 {p : Program} {l : Launch} {e : Env} {s : State} {m : MethodId} {args : Array Value} {below : List Frame} {meth : Method} {c : Code} {H : Heap} {locs : List Loc} {cells slots : Nat} {Q : State → Prop} {ls : Array Slot} {D : va_G} {cy : Nat → ClassId} {adK adV : Nat → Nat} {ax am b len i : Nat} {xs : Nat → Int32} (hC : gC p s m args meth c cL_law 4 RL D cy) (hEs : EZ s.heap.size adK adV s) (hXs : va_X b len xs s s.heap) (hbl : b < s.heap.size) (hlen : len ≤ 3072) (hi : i + 6 ≤ len) (hcl : cells + 4 ≤ 600000) (hsl : slots + 40 ≤ 7302250) (hS : LSt D cy s ax am H locs) (hl : lv_has ls 4 [(3, .int (nI i)), (2, .ref am), (1, .ref ax), (0, .ref b)]) (kk : ∀ (H1 : Heap) (locs1 : List Loc), LSt D cy s ax am H1 locs1 → W p l e room_1 s m args below meth c H1 locs1 (cells + 4) (slots + 40) Q (F0 m 1396 ls [])) : W p l e room_1 s m args below meth c H locs cells slots Q (F0 m 520 ls []) := by
  obtain ⟨adX, LX, x, W1, N, q, adM, mm, hH, hax, ham, hR, hq, hs, hl0, hB⟩ := hS
  have hXE : gX (fun q => s.heap.size ≤ q) s (EZ s.heap.size adK adV) := EZ_X (fun _ h => h) hEs
  have hEX := EZ_ok (adK := adK) (adV := adV) hH.2.2.2.2.2.1
  have hEM := EZ_ok (adK := adK) (adV := adV) hH.2.2.2.2.2.2.1
  obtain ⟨r, x1, mm1, ex, em, hR1⟩ := op_step hR (xs (i + 1)) (xs (i + 2))
  refine lv_aload_n hC.x hC.b dL_law_520 rfl (lv_at hl 2 rfl) ?_
  refine L_arg (pc := 521) (k := 1) (n := 1) hC hXs hbl hH.2.2.2.2.2.2.2 hl rfl dL_law_521 dL_law_522 dL_law_523 dL_law_524 dL_law_525 (by omega) hlen ?_
  refine L_arg (pc := 526) (k := 2) (n := 2) hC hXs hbl hH.2.2.2.2.2.2.2 hl rfl dL_law_526 dL_law_527 dL_law_528 dL_law_529 dL_law_530 (by omega) hlen ?_
  refine L_X (R := room_1) (cells := cells) (slots := slots) (As := [.int (xs (i + 1)), .int (xs (i + 2))]) (rest := []) (q := (RX11, TX11, 13)) hC hXE EZ_bl hH hax (hl0 _ mX0) (c_X11_step (l := l) hH.2.2.1 hl0 hEX ex) kw715 kw716 kw717 kw2 kw718 aL_X11_step.1 aL_X11_step.2 rfl rfl hl.1 ⟨Nat.le_of_ble_eq_true rfl, Nat.le_of_ble_eq_true rfl, (by show cells ≤ 600000; omega), (by show slots ≤ 7302250; omega)⟩ (Nat.le_of_ble_eq_true rfl) dL_law_531 (fun H locs hH => ?_)
  refine lv_aload_n hC.x hC.b dL_law_534 rfl (lv_at hl 1 rfl) ?_
  refine L_arg (pc := 535) (k := 1) (n := 1) hC hXs hbl hH.2.2.2.2.2.2.2 hl rfl dL_law_535 dL_law_536 dL_law_537 dL_law_538 dL_law_539 (by omega) hlen ?_
  refine L_arg (pc := 540) (k := 2) (n := 2) hC hXs hbl hH.2.2.2.2.2.2.2 hl rfl dL_law_540 dL_law_541 dL_law_542 dL_law_543 dL_law_544 (by omega) hlen ?_
  refine L_M (R := room_1) (cells := cells) (slots := slots) (As := [.int (xs (i + 1)), .int (xs (i + 2))]) (rest := [.int r]) (q := (RX12, TX12, 74)) hC hXE EZ_bl hH ham (c_X12_step (l := l) hH.2.2.2.1 lmf_M0 hEM em) kw743 kw744 kw745 kw5 kw746 aL_X12_step.1 aL_X12_step.2 rfl rfl hl.1 ⟨Nat.le_of_ble_eq_true rfl, Nat.le_of_ble_eq_true rfl, (by show cells ≤ 600000; omega), (by show slots ≤ 7302250; omega)⟩ (Nat.le_of_ble_eq_true rfl) dL_law_545 (fun H locs hH => ?_)
  refine lv_icmp_eq (tgt := 1396) hC.x hC.b dL_law_548 (by decide) (fun _ => ?_) (fun z => absurd rfl z)
  refine W.widen (k := cells + 4) (n := slots + 40) (by omega) (by omega) ?_
  exact kk _ _ ⟨adX, LX, x1, W1, N, q, adM, mm1, hH, hax, ham, hR1, q_X11_step hl0 hq _ _ ex, hs, hl0, hB⟩
theorem law_11 {p : Program} {l : Launch} {e : Env} {s : State} {m : MethodId} {args : Array Value} {below : List Frame} {meth : Method} {c : Code} {H : Heap} {locs : List Loc} {cells slots : Nat} {Q : State → Prop} {ls : Array Slot} {D : va_G} {cy : Nat → ClassId} {adK adV : Nat → Nat} {ax am b len i : Nat} {xs : Nat → Int32} (hC : gC p s m args meth c cL_law 4 RL D cy) (hEs : EZ s.heap.size adK adV s) (hXs : va_X b len xs s s.heap) (hbl : b < s.heap.size) (hlen : len ≤ 3072) (hi : i + 6 ≤ len) (hcl : cells + 4 ≤ 600000) (hsl : slots + 40 ≤ 7302250) (hS : LSt D cy s ax am H locs) (hl : lv_has ls 4 [(3, .int (nI i)), (2, .ref am), (1, .ref ax), (0, .ref b)]) (kk : ∀ (H1 : Heap) (locs1 : List Loc), LSt D cy s ax am H1 locs1 → W p l e room_1 s m args below meth c H1 locs1 (cells + 4) (slots + 40) Q (F0 m 1396 ls [])) : W p l e room_1 s m args below meth c H locs cells slots Q (F0 m 553 ls []) := by
  obtain ⟨adX, LX, x, W1, N, q, adM, mm, hH, hax, ham, hR, hq, hs, hl0, hB⟩ := hS
  have hXE : gX (fun q => s.heap.size ≤ q) s (EZ s.heap.size adK adV) := EZ_X (fun _ h => h) hEs
  have hEX := EZ_ok (adK := adK) (adV := adV) hH.2.2.2.2.2.1
  have hEM := EZ_ok (adK := adK) (adV := adV) hH.2.2.2.2.2.2.1
  obtain ⟨r, x1, mm1, ex, em, hR1⟩ := op_still hR (xs (i + 1))
  refine lv_aload_n hC.x hC.b dL_law_553 rfl (lv_at hl 2 rfl) ?_
  refine L_arg (pc := 554) (k := 1) (n := 1) hC hXs hbl hH.2.2.2.2.2.2.2 hl rfl dL_law_554 dL_law_555 dL_law_556 dL_law_557 dL_law_558 (by omega) hlen ?_
  refine L_X (R := room_1) (cells := cells) (slots := slots) (As := [.int (xs (i + 1))]) (rest := []) (q := (RX11, TX11, 13)) hC hXE EZ_bl hH hax (hl0 _ mX0) (c_X11_still (l := l) hH.2.2.1 hl0 hEX ex) kw763 kw764 kw765 kw2 kw766 aL_X11_still.1 aL_X11_still.2 rfl rfl hl.1 ⟨Nat.le_of_ble_eq_true rfl, Nat.le_of_ble_eq_true rfl, (by show cells ≤ 600000; omega), (by show slots ≤ 7302250; omega)⟩ (Nat.le_of_ble_eq_true rfl) dL_law_559 (fun H locs hH => ?_)
  refine lv_aload_n hC.x hC.b dL_law_562 rfl (lv_at hl 1 rfl) ?_
  refine L_arg (pc := 563) (k := 1) (n := 1) hC hXs hbl hH.2.2.2.2.2.2.2 hl rfl dL_law_563 dL_law_564 dL_law_565 dL_law_566 dL_law_567 (by omega) hlen ?_
  refine L_M (R := room_1) (cells := cells) (slots := slots) (As := [.int (xs (i + 1))]) (rest := [.int r]) (q := (RX12, TX12, 74)) hC hXE EZ_bl hH ham (c_X12_still (l := l) hH.2.2.2.1 lmf_M0 hEM em) kw768 kw769 kw770 kw5 kw771 aL_X12_still.1 aL_X12_still.2 rfl rfl hl.1 ⟨Nat.le_of_ble_eq_true rfl, Nat.le_of_ble_eq_true rfl, (by show cells ≤ 600000; omega), (by show slots ≤ 7302250; omega)⟩ (Nat.le_of_ble_eq_true rfl) dL_law_568 (fun H locs hH => ?_)
  refine lv_icmp_eq (tgt := 1396) hC.x hC.b dL_law_571 (by decide) (fun _ => ?_) (fun z => absurd rfl z)
  refine W.widen (k := cells + 4) (n := slots + 40) (by omega) (by omega) ?_
  exact kk _ _ ⟨adX, LX, x1, W1, N, q, adM, mm1, hH, hax, ham, hR1, q_X11_still hl0 hq _ _ ex, hs, hl0, hB⟩
theorem law_12 {p : Program} {l : Launch} {e : Env} {s : State} {m : MethodId} {args : Array Value} {below : List Frame} {meth : Method} {c : Code} {H : Heap} {locs : List Loc} {cells slots : Nat} {Q : State → Prop} {ls : Array Slot} {D : va_G} {cy : Nat → ClassId} {adK adV : Nat → Nat} {ax am b len i : Nat} {xs : Nat → Int32} (hC : gC p s m args meth c cL_law 4 RL D cy) (hEs : EZ s.heap.size adK adV s) (hXs : va_X b len xs s s.heap) (hbl : b < s.heap.size) (hlen : len ≤ 3072) (hi : i + 6 ≤ len) (hcl : cells + 4 ≤ 600000) (hsl : slots + 40 ≤ 7302250) (hS : LSt D cy s ax am H locs) (hl : lv_has ls 4 [(3, .int (nI i)), (2, .ref am), (1, .ref ax), (0, .ref b)]) (kk : ∀ (H1 : Heap) (locs1 : List Loc), LSt D cy s ax am H1 locs1 → W p l e room_1 s m args below meth c H1 locs1 (cells + 4) (slots + 40) Q (F0 m 1396 ls [])) : W p l e room_1 s m args below meth c H locs cells slots Q (F0 m 576 ls []) := by
  obtain ⟨adX, LX, x, W1, N, q, adM, mm, hH, hax, ham, hR, hq, hs, hl0, hB⟩ := hS
  have hXE : gX (fun q => s.heap.size ≤ q) s (EZ s.heap.size adK adV) := EZ_X (fun _ h => h) hEs
  have hEX := EZ_ok (adK := adK) (adV := adV) hH.2.2.2.2.2.1
  have hEM := EZ_ok (adK := adK) (adV := adV) hH.2.2.2.2.2.2.1
  obtain ⟨r, x1, mm1, ex, em, hR1⟩ := op_lull hR 
  refine lv_aload_n hC.x hC.b dL_law_576 rfl (lv_at hl 2 rfl) ?_
  refine L_X (R := room_1) (cells := cells) (slots := slots) (As := []) (rest := []) (q := (RX11, TX11, 13)) hC hXE EZ_bl hH hax (hl0 _ mX0) (c_X11_lull (l := l) hH.2.2.1 hl0 hEX ex) kw772 kw773 kw774 kw2 kw775 aL_X11_lull.1 aL_X11_lull.2 rfl rfl hl.1 ⟨Nat.le_of_ble_eq_true rfl, Nat.le_of_ble_eq_true rfl, (by show cells ≤ 600000; omega), (by show slots ≤ 7302250; omega)⟩ (Nat.le_of_ble_eq_true rfl) dL_law_577 (fun H locs hH => ?_)
  refine lv_aload_n hC.x hC.b dL_law_580 rfl (lv_at hl 1 rfl) ?_
  refine L_M (R := room_1) (cells := cells) (slots := slots) (As := []) (rest := [.int r]) (q := (RX12, TX12, 74)) hC hXE EZ_bl hH ham (c_X12_lull (l := l) hH.2.2.2.1 lmf_M0 hEM em) kw776 kw777 kw778 kw5 kw779 aL_X12_lull.1 aL_X12_lull.2 rfl rfl hl.1 ⟨Nat.le_of_ble_eq_true rfl, Nat.le_of_ble_eq_true rfl, (by show cells ≤ 600000; omega), (by show slots ≤ 7302250; omega)⟩ (Nat.le_of_ble_eq_true rfl) dL_law_581 (fun H locs hH => ?_)
  refine lv_icmp_eq (tgt := 1396) hC.x hC.b dL_law_584 (by decide) (fun _ => ?_) (fun z => absurd rfl z)
  refine W.widen (k := cells + 4) (n := slots + 40) (by omega) (by omega) ?_
  exact kk _ _ ⟨adX, LX, x1, W1, N, q, adM, mm1, hH, hax, ham, hR1, q_X11_lull hl0 hq _ _ ex, hs, hl0, hB⟩
theorem law_13 {p : Program} {l : Launch} {e : Env} {s : State} {m : MethodId} {args : Array Value} {below : List Frame} {meth : Method} {c : Code} {H : Heap} {locs : List Loc} {cells slots : Nat} {Q : State → Prop} {ls : Array Slot} {D : va_G} {cy : Nat → ClassId} {adK adV : Nat → Nat} {ax am b len i : Nat} {xs : Nat → Int32} (hC : gC p s m args meth c cL_law 4 RL D cy) (hEs : EZ s.heap.size adK adV s) (hXs : va_X b len xs s s.heap) (hbl : b < s.heap.size) (hlen : len ≤ 3072) (hi : i + 6 ≤ len) (hcl : cells + 4 ≤ 600000) (hsl : slots + 40 ≤ 7302250) (hS : LSt D cy s ax am H locs) (hl : lv_has ls 4 [(3, .int (nI i)), (2, .ref am), (1, .ref ax), (0, .ref b)]) (kk : ∀ (H1 : Heap) (locs1 : List Loc), LSt D cy s ax am H1 locs1 → W p l e room_1 s m args below meth c H1 locs1 (cells + 4) (slots + 40) Q (F0 m 1396 ls [])) : W p l e room_1 s m args below meth c H locs cells slots Q (F0 m 589 ls []) := by
  obtain ⟨adX, LX, x, W1, N, q, adM, mm, hH, hax, ham, hR, hq, hs, hl0, hB⟩ := hS
  have hXE : gX (fun q => s.heap.size ≤ q) s (EZ s.heap.size adK adV) := EZ_X (fun _ h => h) hEs
  have hEX := EZ_ok (adK := adK) (adV := adV) hH.2.2.2.2.2.1
  have hEM := EZ_ok (adK := adK) (adV := adV) hH.2.2.2.2.2.2.1
  obtain ⟨r, x1, mm1, ex, em, hR1⟩ := op_way hR (xs (i + 1))
  refine lv_aload_n hC.x hC.b dL_law_589 rfl (lv_at hl 2 rfl) ?_
  refine L_arg (pc := 590) (k := 1) (n := 1) hC hXs hbl hH.2.2.2.2.2.2.2 hl rfl dL_law_590 dL_law_591 dL_law_592 dL_law_593 dL_law_594 (by omega) hlen ?_
  refine L_X (R := room_1) (cells := cells) (slots := slots) (As := [.int (xs (i + 1))]) (rest := []) (q := (RX11, TX11, 13)) hC hXE EZ_bl hH hax (hl0 _ mX0) (c_X11_way (l := l) hH.2.2.1 hl0 hEX ex) kw780 kw781 kw782 kw2 kw783 aL_X11_way.1 aL_X11_way.2 rfl rfl hl.1 ⟨Nat.le_of_ble_eq_true rfl, Nat.le_of_ble_eq_true rfl, (by show cells ≤ 600000; omega), (by show slots ≤ 7302250; omega)⟩ (Nat.le_of_ble_eq_true rfl) dL_law_595 (fun H locs hH => ?_)
  refine lv_aload_n hC.x hC.b dL_law_598 rfl (lv_at hl 1 rfl) ?_
  refine L_arg (pc := 599) (k := 1) (n := 1) hC hXs hbl hH.2.2.2.2.2.2.2 hl rfl dL_law_599 dL_law_600 dL_law_601 dL_law_602 dL_law_603 (by omega) hlen ?_
  refine L_M (R := room_1) (cells := cells) (slots := slots) (As := [.int (xs (i + 1))]) (rest := [.int r]) (q := (RX12, TX12, 74)) hC hXE EZ_bl hH ham (c_X12_way (l := l) hH.2.2.2.1 lmf_M0 hEM em) kw786 kw787 kw788 kw5 kw789 aL_X12_way.1 aL_X12_way.2 rfl rfl hl.1 ⟨Nat.le_of_ble_eq_true rfl, Nat.le_of_ble_eq_true rfl, (by show cells ≤ 600000; omega), (by show slots ≤ 7302250; omega)⟩ (Nat.le_of_ble_eq_true rfl) dL_law_604 (fun H locs hH => ?_)
  refine lv_icmp_eq (tgt := 1396) hC.x hC.b dL_law_607 (by decide) (fun _ => ?_) (fun z => absurd rfl z)
  refine W.widen (k := cells + 4) (n := slots + 40) (by omega) (by omega) ?_
  exact kk _ _ ⟨adX, LX, x1, W1, N, q, adM, mm1, hH, hax, ham, hR1, q_X11_way hl0 hq _ _ ex, hs, hl0, hB⟩
theorem law_14 {p : Program} {l : Launch} {e : Env} {s : State} {m : MethodId} {args : Array Value} {below : List Frame} {meth : Method} {c : Code} {H : Heap} {locs : List Loc} {cells slots : Nat} {Q : State → Prop} {ls : Array Slot} {D : va_G} {cy : Nat → ClassId} {adK adV : Nat → Nat} {ax am b len i : Nat} {xs : Nat → Int32} (hC : gC p s m args meth c cL_law 4 RL D cy) (hEs : EZ s.heap.size adK adV s) (hXs : va_X b len xs s s.heap) (hbl : b < s.heap.size) (hlen : len ≤ 3072) (hi : i + 6 ≤ len) (hcl : cells + 4 ≤ 600000) (hsl : slots + 40 ≤ 7302250) (hS : LSt D cy s ax am H locs) (hl : lv_has ls 4 [(3, .int (nI i)), (2, .ref am), (1, .ref ax), (0, .ref b)]) (kk : ∀ (H1 : Heap) (locs1 : List Loc), LSt D cy s ax am H1 locs1 → W p l e room_1 s m args below meth c H1 locs1 (cells + 4) (slots + 40) Q (F0 m 1396 ls [])) : W p l e room_1 s m args below meth c H locs cells slots Q (F0 m 612 ls []) := by
  obtain ⟨adX, LX, x, W1, N, q, adM, mm, hH, hax, ham, hR, hq, hs, hl0, hB⟩ := hS
  have hXE : gX (fun q => s.heap.size ≤ q) s (EZ s.heap.size adK adV) := EZ_X (fun _ h => h) hEs
  have hEX := EZ_ok (adK := adK) (adV := adV) hH.2.2.2.2.2.1
  have hEM := EZ_ok (adK := adK) (adV := adV) hH.2.2.2.2.2.2.1
  obtain ⟨r, x1, mm1, ex, em, hR1⟩ := op_goes hR (xs (i + 1)) (xs (i + 2))
  refine lv_aload_n hC.x hC.b dL_law_612 rfl (lv_at hl 2 rfl) ?_
  refine L_arg (pc := 613) (k := 1) (n := 1) hC hXs hbl hH.2.2.2.2.2.2.2 hl rfl dL_law_613 dL_law_614 dL_law_615 dL_law_616 dL_law_617 (by omega) hlen ?_
  refine L_arg (pc := 618) (k := 2) (n := 2) hC hXs hbl hH.2.2.2.2.2.2.2 hl rfl dL_law_618 dL_law_619 dL_law_620 dL_law_621 dL_law_622 (by omega) hlen ?_
  refine L_X (R := room_1) (cells := cells) (slots := slots) (As := [.int (xs (i + 1)), .int (xs (i + 2))]) (rest := []) (q := (RX11, TX11, 13)) hC hXE EZ_bl hH hax (hl0 _ mX0) (c_X11_goes (l := l) hH.2.2.1 hl0 hEX ex) kw790 kw791 kw792 kw2 kw793 aL_X11_goes.1 aL_X11_goes.2 rfl rfl hl.1 ⟨Nat.le_of_ble_eq_true rfl, Nat.le_of_ble_eq_true rfl, (by show cells ≤ 600000; omega), (by show slots ≤ 7302250; omega)⟩ (Nat.le_of_ble_eq_true rfl) dL_law_623 (fun H locs hH => ?_)
  refine lv_aload_n hC.x hC.b dL_law_626 rfl (lv_at hl 1 rfl) ?_
  refine L_arg (pc := 627) (k := 1) (n := 1) hC hXs hbl hH.2.2.2.2.2.2.2 hl rfl dL_law_627 dL_law_628 dL_law_629 dL_law_630 dL_law_631 (by omega) hlen ?_
  refine L_arg (pc := 632) (k := 2) (n := 2) hC hXs hbl hH.2.2.2.2.2.2.2 hl rfl dL_law_632 dL_law_633 dL_law_634 dL_law_635 dL_law_636 (by omega) hlen ?_
  refine L_M (R := room_1) (cells := cells) (slots := slots) (As := [.int (xs (i + 1)), .int (xs (i + 2))]) (rest := [.int r]) (q := (RX12, TX12, 74)) hC hXE EZ_bl hH ham (c_X12_goes (l := l) hH.2.2.2.1 lmf_M0 hEM em) kw833 kw834 kw835 kw5 kw836 aL_X12_goes.1 aL_X12_goes.2 rfl rfl hl.1 ⟨Nat.le_of_ble_eq_true rfl, Nat.le_of_ble_eq_true rfl, (by show cells ≤ 600000; omega), (by show slots ≤ 7302250; omega)⟩ (Nat.le_of_ble_eq_true rfl) dL_law_637 (fun H locs hH => ?_)
  refine lv_icmp_eq (tgt := 1396) hC.x hC.b dL_law_640 (by decide) (fun _ => ?_) (fun z => absurd rfl z)
  refine W.widen (k := cells + 4) (n := slots + 40) (by omega) (by omega) ?_
  exact kk _ _ ⟨adX, LX, x1, W1, N, q, adM, mm1, hH, hax, ham, hR1, q_X11_goes hl0 hq _ _ ex, hs, hl0, hB⟩
theorem law_15 {p : Program} {l : Launch} {e : Env} {s : State} {m : MethodId} {args : Array Value} {below : List Frame} {meth : Method} {c : Code} {H : Heap} {locs : List Loc} {cells slots : Nat} {Q : State → Prop} {ls : Array Slot} {D : va_G} {cy : Nat → ClassId} {adK adV : Nat → Nat} {ax am b len i : Nat} {xs : Nat → Int32} (hC : gC p s m args meth c cL_law 4 RL D cy) (hEs : EZ s.heap.size adK adV s) (hXs : va_X b len xs s s.heap) (hbl : b < s.heap.size) (hlen : len ≤ 3072) (hi : i + 6 ≤ len) (hcl : cells + 4 ≤ 600000) (hsl : slots + 40 ≤ 7302250) (hS : LSt D cy s ax am H locs) (hl : lv_has ls 4 [(3, .int (nI i)), (2, .ref am), (1, .ref ax), (0, .ref b)]) (kk : ∀ (H1 : Heap) (locs1 : List Loc), LSt D cy s ax am H1 locs1 → W p l e room_1 s m args below meth c H1 locs1 (cells + 4) (slots + 40) Q (F0 m 1396 ls [])) : W p l e room_1 s m args below meth c H locs cells slots Q (F0 m 645 ls []) := by
  obtain ⟨adX, LX, x, W1, N, q, adM, mm, hH, hax, ham, hR, hq, hs, hl0, hB⟩ := hS
  have hXE : gX (fun q => s.heap.size ≤ q) s (EZ s.heap.size adK adV) := EZ_X (fun _ h => h) hEs
  have hEX := EZ_ok (adK := adK) (adV := adV) hH.2.2.2.2.2.1
  have hEM := EZ_ok (adK := adK) (adV := adV) hH.2.2.2.2.2.2.1
  obtain ⟨r, x1, mm1, ex, em, hR1⟩ := op_out hR (xs (i + 1))
  refine lv_aload_n hC.x hC.b dL_law_645 rfl (lv_at hl 2 rfl) ?_
  refine L_arg (pc := 646) (k := 1) (n := 1) hC hXs hbl hH.2.2.2.2.2.2.2 hl rfl dL_law_646 dL_law_647 dL_law_648 dL_law_649 dL_law_650 (by omega) hlen ?_
  refine L_X (R := room_1) (cells := cells) (slots := slots) (As := [.int (xs (i + 1))]) (rest := []) (q := (RX11, TX11, 13)) hC hXE EZ_bl hH hax (hl0 _ mX0) (c_X11_out (l := l) hH.2.2.1 hl0 hEX ex) kw841 kw842 kw843 kw2 kw844 aL_X11_out.1 aL_X11_out.2 rfl rfl hl.1 ⟨Nat.le_of_ble_eq_true rfl, Nat.le_of_ble_eq_true rfl, (by show cells ≤ 600000; omega), (by show slots ≤ 7302250; omega)⟩ (Nat.le_of_ble_eq_true rfl) dL_law_651 (fun H locs hH => ?_)
  refine lv_aload_n hC.x hC.b dL_law_654 rfl (lv_at hl 1 rfl) ?_
  refine L_arg (pc := 655) (k := 1) (n := 1) hC hXs hbl hH.2.2.2.2.2.2.2 hl rfl dL_law_655 dL_law_656 dL_law_657 dL_law_658 dL_law_659 (by omega) hlen ?_
  refine L_M (R := room_1) (cells := cells) (slots := slots) (As := [.int (xs (i + 1))]) (rest := [.int r]) (q := (RX12, TX12, 74)) hC hXE EZ_bl hH ham (c_X12_out (l := l) hH.2.2.2.1 lmf_M0 hEM em) kw861 kw862 kw863 kw5 kw864 aL_X12_out.1 aL_X12_out.2 rfl rfl hl.1 ⟨Nat.le_of_ble_eq_true rfl, Nat.le_of_ble_eq_true rfl, (by show cells ≤ 600000; omega), (by show slots ≤ 7302250; omega)⟩ (Nat.le_of_ble_eq_true rfl) dL_law_660 (fun H locs hH => ?_)
  refine lv_icmp_eq (tgt := 1396) hC.x hC.b dL_law_663 (by decide) (fun _ => ?_) (fun z => absurd rfl z)
  refine W.widen (k := cells + 4) (n := slots + 40) (by omega) (by omega) ?_
  exact kk _ _ ⟨adX, LX, x1, W1, N, q, adM, mm1, hH, hax, ham, hR1, q_X11_out hl0 hq _ _ ex, hs, hl0, hB⟩
theorem law_16 {p : Program} {l : Launch} {e : Env} {s : State} {m : MethodId} {args : Array Value} {below : List Frame} {meth : Method} {c : Code} {H : Heap} {locs : List Loc} {cells slots : Nat} {Q : State → Prop} {ls : Array Slot} {D : va_G} {cy : Nat → ClassId} {adK adV : Nat → Nat} {ax am b len i : Nat} {xs : Nat → Int32} (hC : gC p s m args meth c cL_law 4 RL D cy) (hEs : EZ s.heap.size adK adV s) (hXs : va_X b len xs s s.heap) (hbl : b < s.heap.size) (hlen : len ≤ 3072) (hi : i + 6 ≤ len) (hcl : cells + 4 ≤ 600000) (hsl : slots + 40 ≤ 7302250) (hS : LSt D cy s ax am H locs) (hl : lv_has ls 4 [(3, .int (nI i)), (2, .ref am), (1, .ref ax), (0, .ref b)]) (kk : ∀ (H1 : Heap) (locs1 : List Loc), LSt D cy s ax am H1 locs1 → W p l e room_1 s m args below meth c H1 locs1 (cells + 4) (slots + 40) Q (F0 m 1396 ls [])) : W p l e room_1 s m args below meth c H locs cells slots Q (F0 m 668 ls []) := by
  obtain ⟨adX, LX, x, W1, N, q, adM, mm, hH, hax, ham, hR, hq, hs, hl0, hB⟩ := hS
  have hXE : gX (fun q => s.heap.size ≤ q) s (EZ s.heap.size adK adV) := EZ_X (fun _ h => h) hEs
  have hEX := EZ_ok (adK := adK) (adV := adV) hH.2.2.2.2.2.1
  have hEM := EZ_ok (adK := adK) (adV := adV) hH.2.2.2.2.2.2.1
  obtain ⟨r, x1, mm1, ex, em, hR1⟩ := op_quiet hR (xs (i + 1)) (xs (i + 2))
  refine lv_aload_n hC.x hC.b dL_law_668 rfl (lv_at hl 2 rfl) ?_
  refine L_arg (pc := 669) (k := 1) (n := 1) hC hXs hbl hH.2.2.2.2.2.2.2 hl rfl dL_law_669 dL_law_670 dL_law_671 dL_law_672 dL_law_673 (by omega) hlen ?_
  refine L_arg (pc := 674) (k := 2) (n := 2) hC hXs hbl hH.2.2.2.2.2.2.2 hl rfl dL_law_674 dL_law_675 dL_law_676 dL_law_677 dL_law_678 (by omega) hlen ?_
  refine L_X (R := room_1) (cells := cells) (slots := slots) (As := [.int (xs (i + 1)), .int (xs (i + 2))]) (rest := []) (q := (RX11, TX11, 13)) hC hXE EZ_bl hH hax (hl0 _ mX0) (c_X11_quiet (l := l) hH.2.2.1 hl0 hEX ex) kw881 kw882 kw883 kw2 kw884 aL_X11_quiet.1 aL_X11_quiet.2 rfl rfl hl.1 ⟨Nat.le_of_ble_eq_true rfl, Nat.le_of_ble_eq_true rfl, (by show cells ≤ 600000; omega), (by show slots ≤ 7302250; omega)⟩ (Nat.le_of_ble_eq_true rfl) dL_law_679 (fun H locs hH => ?_)
  refine lv_aload_n hC.x hC.b dL_law_682 rfl (lv_at hl 1 rfl) ?_
  refine L_arg (pc := 683) (k := 1) (n := 1) hC hXs hbl hH.2.2.2.2.2.2.2 hl rfl dL_law_683 dL_law_684 dL_law_685 dL_law_686 dL_law_687 (by omega) hlen ?_
  refine L_arg (pc := 688) (k := 2) (n := 2) hC hXs hbl hH.2.2.2.2.2.2.2 hl rfl dL_law_688 dL_law_689 dL_law_690 dL_law_691 dL_law_692 (by omega) hlen ?_
  refine L_M (R := room_1) (cells := cells) (slots := slots) (As := [.int (xs (i + 1)), .int (xs (i + 2))]) (rest := [.int r]) (q := (RX12, TX12, 74)) hC hXE EZ_bl hH ham (c_X12_quiet (l := l) hH.2.2.2.1 lmf_M0 hEM em) kw902 kw903 kw904 kw5 kw905 aL_X12_quiet.1 aL_X12_quiet.2 rfl rfl hl.1 ⟨Nat.le_of_ble_eq_true rfl, Nat.le_of_ble_eq_true rfl, (by show cells ≤ 600000; omega), (by show slots ≤ 7302250; omega)⟩ (Nat.le_of_ble_eq_true rfl) dL_law_693 (fun H locs hH => ?_)
  refine lv_icmp_eq (tgt := 1396) hC.x hC.b dL_law_696 (by decide) (fun _ => ?_) (fun z => absurd rfl z)
  refine W.widen (k := cells + 4) (n := slots + 40) (by omega) (by omega) ?_
  exact kk _ _ ⟨adX, LX, x1, W1, N, q, adM, mm1, hH, hax, ham, hR1, q_X11_quiet hl0 hq _ _ ex, hs, hl0, hB⟩
theorem law_17 {p : Program} {l : Launch} {e : Env} {s : State} {m : MethodId} {args : Array Value} {below : List Frame} {meth : Method} {c : Code} {H : Heap} {locs : List Loc} {cells slots : Nat} {Q : State → Prop} {ls : Array Slot} {D : va_G} {cy : Nat → ClassId} {adK adV : Nat → Nat} {ax am b len i : Nat} {xs : Nat → Int32} (hC : gC p s m args meth c cL_law 4 RL D cy) (hEs : EZ s.heap.size adK adV s) (hXs : va_X b len xs s s.heap) (hbl : b < s.heap.size) (hlen : len ≤ 3072) (hi : i + 6 ≤ len) (hcl : cells + 4 ≤ 600000) (hsl : slots + 40 ≤ 7302250) (hS : LSt D cy s ax am H locs) (hl : lv_has ls 4 [(3, .int (nI i)), (2, .ref am), (1, .ref ax), (0, .ref b)]) (kk : ∀ (H1 : Heap) (locs1 : List Loc), LSt D cy s ax am H1 locs1 → W p l e room_1 s m args below meth c H1 locs1 (cells + 4) (slots + 40) Q (F0 m 1396 ls [])) : W p l e room_1 s m args below meth c H locs cells slots Q (F0 m 701 ls []) := by
  obtain ⟨adX, LX, x, W1, N, q, adM, mm, hH, hax, ham, hR, hq, hs, hl0, hB⟩ := hS
  have hXE : gX (fun q => s.heap.size ≤ q) s (EZ s.heap.size adK adV) := EZ_X (fun _ h => h) hEs
  have hEX := EZ_ok (adK := adK) (adV := adV) hH.2.2.2.2.2.1
  have hEM := EZ_ok (adK := adK) (adV := adV) hH.2.2.2.2.2.2.1
  obtain ⟨r, x1, mm1, ex, em, hR1⟩ := op_set hR (xs (i + 1)) (xs (i + 2))
  refine lv_aload_n hC.x hC.b dL_law_701 rfl (lv_at hl 2 rfl) ?_
  refine L_arg (pc := 702) (k := 1) (n := 1) hC hXs hbl hH.2.2.2.2.2.2.2 hl rfl dL_law_702 dL_law_703 dL_law_704 dL_law_705 dL_law_706 (by omega) hlen ?_
  refine L_arg (pc := 707) (k := 2) (n := 2) hC hXs hbl hH.2.2.2.2.2.2.2 hl rfl dL_law_707 dL_law_708 dL_law_709 dL_law_710 dL_law_711 (by omega) hlen ?_
  refine L_X (R := room_1) (cells := cells) (slots := slots) (As := [.int (xs (i + 1)), .int (xs (i + 2))]) (rest := []) (q := (RX11, TX11, 13)) hC hXE EZ_bl hH hax (hl0 _ mX0) (c_X11_set (l := l) hH.2.2.1 hl0 hEX ex) kw918 kw919 kw920 kw2 kw921 aL_X11_set.1 aL_X11_set.2 rfl rfl hl.1 ⟨Nat.le_of_ble_eq_true rfl, Nat.le_of_ble_eq_true rfl, (by show cells ≤ 600000; omega), (by show slots ≤ 7302250; omega)⟩ (Nat.le_of_ble_eq_true rfl) dL_law_712 (fun H locs hH => ?_)
  refine lv_aload_n hC.x hC.b dL_law_715 rfl (lv_at hl 1 rfl) ?_
  refine L_arg (pc := 716) (k := 1) (n := 1) hC hXs hbl hH.2.2.2.2.2.2.2 hl rfl dL_law_716 dL_law_717 dL_law_718 dL_law_719 dL_law_720 (by omega) hlen ?_
  refine L_arg (pc := 721) (k := 2) (n := 2) hC hXs hbl hH.2.2.2.2.2.2.2 hl rfl dL_law_721 dL_law_722 dL_law_723 dL_law_724 dL_law_725 (by omega) hlen ?_
  refine L_M (R := room_1) (cells := cells) (slots := slots) (As := [.int (xs (i + 1)), .int (xs (i + 2))]) (rest := [.int r]) (q := (RX12, TX12, 74)) hC hXE EZ_bl hH ham (c_X12_set (l := l) hH.2.2.2.1 lmf_M0 hEM em) kw925 kw926 kw927 kw5 kw928 aL_X12_set.1 aL_X12_set.2 rfl rfl hl.1 ⟨Nat.le_of_ble_eq_true rfl, Nat.le_of_ble_eq_true rfl, (by show cells ≤ 600000; omega), (by show slots ≤ 7302250; omega)⟩ (Nat.le_of_ble_eq_true rfl) dL_law_726 (fun H locs hH => ?_)
  refine lv_icmp_eq (tgt := 1396) hC.x hC.b dL_law_729 (by decide) (fun _ => ?_) (fun z => absurd rfl z)
  refine W.widen (k := cells + 4) (n := slots + 40) (by omega) (by omega) ?_
  exact kk _ _ ⟨adX, LX, x1, W1, N, q, adM, mm1, hH, hax, ham, hR1, q_X11_set hl0 hq _ _ ex, hs, hl0, hB⟩
theorem law_18 {p : Program} {l : Launch} {e : Env} {s : State} {m : MethodId} {args : Array Value} {below : List Frame} {meth : Method} {c : Code} {H : Heap} {locs : List Loc} {cells slots : Nat} {Q : State → Prop} {ls : Array Slot} {D : va_G} {cy : Nat → ClassId} {adK adV : Nat → Nat} {ax am b len i : Nat} {xs : Nat → Int32} (hC : gC p s m args meth c cL_law 4 RL D cy) (hEs : EZ s.heap.size adK adV s) (hXs : va_X b len xs s s.heap) (hbl : b < s.heap.size) (hlen : len ≤ 3072) (hi : i + 6 ≤ len) (hcl : cells + 4 ≤ 600000) (hsl : slots + 40 ≤ 7302250) (hS : LSt D cy s ax am H locs) (hl : lv_has ls 4 [(3, .int (nI i)), (2, .ref am), (1, .ref ax), (0, .ref b)]) (kk : ∀ (H1 : Heap) (locs1 : List Loc), LSt D cy s ax am H1 locs1 → W p l e room_1 s m args below meth c H1 locs1 (cells + 4) (slots + 40) Q (F0 m 1396 ls [])) : W p l e room_1 s m args below meth c H locs cells slots Q (F0 m 734 ls []) := by
  obtain ⟨adX, LX, x, W1, N, q, adM, mm, hH, hax, ham, hR, hq, hs, hl0, hB⟩ := hS
  have hXE : gX (fun q => s.heap.size ≤ q) s (EZ s.heap.size adK adV) := EZ_X (fun _ h => h) hEs
  have hEX := EZ_ok (adK := adK) (adV := adV) hH.2.2.2.2.2.1
  have hEM := EZ_ok (adK := adK) (adV := adV) hH.2.2.2.2.2.2.1
  obtain ⟨r, x1, mm1, ex, em, hR1⟩ := op_mend hR (xs (i + 1))
  refine lv_aload_n hC.x hC.b dL_law_734 rfl (lv_at hl 2 rfl) ?_
  refine L_arg (pc := 735) (k := 1) (n := 1) hC hXs hbl hH.2.2.2.2.2.2.2 hl rfl dL_law_735 dL_law_736 dL_law_737 dL_law_738 dL_law_739 (by omega) hlen ?_
  refine L_X (R := room_1) (cells := cells) (slots := slots) (As := [.int (xs (i + 1))]) (rest := []) (q := (RX11, TX11, 13)) hC hXE EZ_bl hH hax (hl0 _ mX0) (c_X11_mend (l := l) hH.2.2.1 hl0 hEX ex) kw929 kw930 kw931 kw2 kw932 aL_X11_mend.1 aL_X11_mend.2 rfl rfl hl.1 ⟨Nat.le_of_ble_eq_true rfl, Nat.le_of_ble_eq_true rfl, (by show cells ≤ 600000; omega), (by show slots ≤ 7302250; omega)⟩ (Nat.le_of_ble_eq_true rfl) dL_law_740 (fun H locs hH => ?_)
  refine lv_aload_n hC.x hC.b dL_law_743 rfl (lv_at hl 1 rfl) ?_
  refine L_arg (pc := 744) (k := 1) (n := 1) hC hXs hbl hH.2.2.2.2.2.2.2 hl rfl dL_law_744 dL_law_745 dL_law_746 dL_law_747 dL_law_748 (by omega) hlen ?_
  refine L_M (R := room_1) (cells := cells) (slots := slots) (As := [.int (xs (i + 1))]) (rest := [.int r]) (q := (RX12, TX12, 74)) hC hXE EZ_bl hH ham (c_X12_mend (l := l) hH.2.2.2.1 lmf_M0 hEM em) kw938 kw939 kw940 kw5 kw941 aL_X12_mend.1 aL_X12_mend.2 rfl rfl hl.1 ⟨Nat.le_of_ble_eq_true rfl, Nat.le_of_ble_eq_true rfl, (by show cells ≤ 600000; omega), (by show slots ≤ 7302250; omega)⟩ (Nat.le_of_ble_eq_true rfl) dL_law_749 (fun H locs hH => ?_)
  refine lv_icmp_eq (tgt := 1396) hC.x hC.b dL_law_752 (by decide) (fun _ => ?_) (fun z => absurd rfl z)
  refine W.widen (k := cells + 4) (n := slots + 40) (by omega) (by omega) ?_
  exact kk _ _ ⟨adX, LX, x1, W1, N, q, adM, mm1, hH, hax, ham, hR1, q_X11_mend hl0 hq _ _ ex, hs, hl0, hB⟩
theorem law_19 {p : Program} {l : Launch} {e : Env} {s : State} {m : MethodId} {args : Array Value} {below : List Frame} {meth : Method} {c : Code} {H : Heap} {locs : List Loc} {cells slots : Nat} {Q : State → Prop} {ls : Array Slot} {D : va_G} {cy : Nat → ClassId} {adK adV : Nat → Nat} {ax am b len i : Nat} {xs : Nat → Int32} (hC : gC p s m args meth c cL_law 4 RL D cy) (hEs : EZ s.heap.size adK adV s) (hXs : va_X b len xs s s.heap) (hbl : b < s.heap.size) (hlen : len ≤ 3072) (hi : i + 6 ≤ len) (hcl : cells + 4 ≤ 600000) (hsl : slots + 40 ≤ 7302250) (hS : LSt D cy s ax am H locs) (hl : lv_has ls 4 [(3, .int (nI i)), (2, .ref am), (1, .ref ax), (0, .ref b)]) (kk : ∀ (H1 : Heap) (locs1 : List Loc), LSt D cy s ax am H1 locs1 → W p l e room_1 s m args below meth c H1 locs1 (cells + 4) (slots + 40) Q (F0 m 1396 ls [])) : W p l e room_1 s m args below meth c H locs cells slots Q (F0 m 757 ls []) := by
  obtain ⟨adX, LX, x, W1, N, q, adM, mm, hH, hax, ham, hR, hq, hs, hl0, hB⟩ := hS
  have hXE : gX (fun q => s.heap.size ≤ q) s (EZ s.heap.size adK adV) := EZ_X (fun _ h => h) hEs
  have hEX := EZ_ok (adK := adK) (adV := adV) hH.2.2.2.2.2.1
  have hEM := EZ_ok (adK := adK) (adV := adV) hH.2.2.2.2.2.2.1
  obtain ⟨r, x1, mm1, ex, em, hR1⟩ := op_away hR (xs (i + 1))
  refine lv_aload_n hC.x hC.b dL_law_757 rfl (lv_at hl 2 rfl) ?_
  refine L_arg (pc := 758) (k := 1) (n := 1) hC hXs hbl hH.2.2.2.2.2.2.2 hl rfl dL_law_758 dL_law_759 dL_law_760 dL_law_761 dL_law_762 (by omega) hlen ?_
  refine L_X (R := room_1) (cells := cells) (slots := slots) (As := [.int (xs (i + 1))]) (rest := []) (q := (RX11, TX11, 13)) hC hXE EZ_bl hH hax (hl0 _ mX0) (c_X11_away (l := l) hH.2.2.1 hl0 hEX ex) kw942 kw943 kw944 kw2 kw945 aL_X11_away.1 aL_X11_away.2 rfl rfl hl.1 ⟨Nat.le_of_ble_eq_true rfl, Nat.le_of_ble_eq_true rfl, (by show cells ≤ 600000; omega), (by show slots ≤ 7302250; omega)⟩ (Nat.le_of_ble_eq_true rfl) dL_law_763 (fun H locs hH => ?_)
  refine lv_aload_n hC.x hC.b dL_law_766 rfl (lv_at hl 1 rfl) ?_
  refine L_arg (pc := 767) (k := 1) (n := 1) hC hXs hbl hH.2.2.2.2.2.2.2 hl rfl dL_law_767 dL_law_768 dL_law_769 dL_law_770 dL_law_771 (by omega) hlen ?_
  refine L_M (R := room_1) (cells := cells) (slots := slots) (As := [.int (xs (i + 1))]) (rest := [.int r]) (q := (RX12, TX12, 74)) hC hXE EZ_bl hH ham (c_X12_away (l := l) hH.2.2.2.1 lmf_M0 hEM em) kw946 kw947 kw948 kw5 kw949 aL_X12_away.1 aL_X12_away.2 rfl rfl hl.1 ⟨Nat.le_of_ble_eq_true rfl, Nat.le_of_ble_eq_true rfl, (by show cells ≤ 600000; omega), (by show slots ≤ 7302250; omega)⟩ (Nat.le_of_ble_eq_true rfl) dL_law_772 (fun H locs hH => ?_)
  refine lv_icmp_eq (tgt := 1396) hC.x hC.b dL_law_775 (by decide) (fun _ => ?_) (fun z => absurd rfl z)
  refine W.widen (k := cells + 4) (n := slots + 40) (by omega) (by omega) ?_
  exact kk _ _ ⟨adX, LX, x1, W1, N, q, adM, mm1, hH, hax, ham, hR1, q_X11_away hl0 hq _ _ ex, hs, hl0, hB⟩

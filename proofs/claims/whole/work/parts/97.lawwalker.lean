/-! the law: walker -/
theorem aL_X11_walker : noMH yX11_walker.cls ∧ arity yX11_walker.desc 3 := by decide +kernel
theorem aL_X12_walker : noMH yX12_walker.cls ∧ arity yX12_walker.desc 3 := by decide +kernel
theorem law_3 {p : Program} {l : Launch} {e : Env} {s : State} {m : MethodId} {args : Array Value} {below : List Frame} {meth : Method} {c : Code} {H : Heap} {locs : List Loc} {cells slots : Nat} {Q : State → Prop} {ls : Array Slot} {D : va_G} {cy : Nat → ClassId} {adK adV : Nat → Nat} {ax am b len i : Nat} {xs : Nat → Int32} (hC : gC p s m args meth c cL_law 4 RL D cy) (hEs : EZ s.heap.size adK adV s) (hXs : va_X b len xs s s.heap) (hbl : b < s.heap.size) (hlen : len ≤ 3072) (hi : i + 6 ≤ len) (hcl : cells + 4 ≤ 600000) (hsl : slots + 40 ≤ 7302250) (hS : LSt D cy s ax am H locs) (hl : lv_has ls 4 [(3, .int (nI i)), (2, .ref am), (1, .ref ax), (0, .ref b)]) (kk : ∀ (H1 : Heap) (locs1 : List Loc), LSt D cy s ax am H1 locs1 → W p l e room_1 s m args below meth c H1 locs1 (cells + 4) (slots + 40) Q (F0 m 1396 ls [])) : W p l e room_1 s m args below meth c H locs cells slots Q (F0 m 309 ls []) := by
  obtain ⟨adX, LX, x, W1, N, q, adM, mm, hH, hax, ham, hR, hq, hs, hl0, hB⟩ := hS
  have hXE : gX (fun q => s.heap.size ≤ q) s (EZ s.heap.size adK adV) := EZ_X (fun _ h => h) hEs
  have hEX := EZ_ok (adK := adK) (adV := adV) hH.2.2.2.2.2.1
  have hEM := EZ_ok (adK := adK) (adV := adV) hH.2.2.2.2.2.2.1
  refine lv_aload_n hC.x hC.b dL_law_309 rfl (lv_at hl 2 rfl) ?_
  refine L_arg (pc := 310) (k := 1) (n := 1) hC hXs hbl hH.2.2.2.2.2.2.2 hl rfl dL_law_310 dL_law_311 dL_law_312 dL_law_313 dL_law_314 (by omega) hlen ?_
  refine L_arg (pc := 315) (k := 2) (n := 2) hC hXs hbl hH.2.2.2.2.2.2.2 hl rfl dL_law_315 dL_law_316 dL_law_317 dL_law_318 dL_law_319 (by omega) hlen ?_
  refine L_arg (pc := 320) (k := 3) (n := 3) hC hXs hbl hH.2.2.2.2.2.2.2 hl rfl dL_law_320 dL_law_321 dL_law_322 dL_law_323 dL_law_324 (by omega) hlen ?_
  by_cases hw : okI (xs (i + 1)) 7 ∧ okI (xs (i + 2)) 10 ∧ okI (xs (i + 3)) 12 ∧ ∃ n, n < 4 ∧ gI mm 0 0 = nI n
  rotate_left
  · obtain ⟨r, ex, em⟩ := walker_no hR hw
    refine L_X (R := room_1) (cells := cells) (slots := slots) (As := [.int (xs (i + 1)), .int (xs (i + 2)), .int (xs (i + 3))]) (rest := []) (q := (RX11, TX11, 13)) hC hXE EZ_bl hH hax (hl0 _ mX0) (c_Wf (l := l) hH.2.2.1 hl0 hEX ex) kw194 kw195 kw196 kw2 kw197 aL_X11_walker.1 aL_X11_walker.2 rfl rfl hl.1 ⟨Nat.le_of_ble_eq_true rfl, Nat.le_of_ble_eq_true rfl, (by show cells ≤ 600000; omega), (by show slots ≤ 7302250; omega)⟩ (Nat.le_of_ble_eq_true rfl) dL_law_325 (fun H locs hH => ?_)
    refine lv_aload_n hC.x hC.b dL_law_328 rfl (lv_at hl 1 rfl) ?_
    refine L_arg (pc := 329) (k := 1) (n := 1) hC hXs hbl hH.2.2.2.2.2.2.2 hl rfl dL_law_329 dL_law_330 dL_law_331 dL_law_332 dL_law_333 (by omega) hlen ?_
    refine L_arg (pc := 334) (k := 2) (n := 2) hC hXs hbl hH.2.2.2.2.2.2.2 hl rfl dL_law_334 dL_law_335 dL_law_336 dL_law_337 dL_law_338 (by omega) hlen ?_
    refine L_arg (pc := 339) (k := 3) (n := 3) hC hXs hbl hH.2.2.2.2.2.2.2 hl rfl dL_law_339 dL_law_340 dL_law_341 dL_law_342 dL_law_343 (by omega) hlen ?_
    refine L_M (R := room_1) (cells := cells) (slots := slots) (As := [.int (xs (i + 1)), .int (xs (i + 2)), .int (xs (i + 3))]) (rest := [.int r]) (q := (RX12, TX12, 74)) hC hXE EZ_bl hH ham (c_X12_walker (l := l) hH.2.2.2.1 lmf_M0 hEM em) kw256 kw257 kw258 kw5 kw259 aL_X12_walker.1 aL_X12_walker.2 rfl rfl hl.1 ⟨Nat.le_of_ble_eq_true rfl, Nat.le_of_ble_eq_true rfl, (by show cells ≤ 600000; omega), (by show slots ≤ 7302250; omega)⟩ (Nat.le_of_ble_eq_true rfl) dL_law_344 (fun H locs hH => ?_)
    refine lv_icmp_eq (tgt := 1396) hC.x hC.b dL_law_347 (by decide) (fun _ => ?_) (fun z => absurd rfl z)
    refine W.widen (k := cells + 4) (n := slots + 40) (by omega) (by omega) ?_
    exact kk _ _ ⟨adX, LX, x, W1, N, q, adM, mm, hH, hax, ham, hR, hq, hs, hl0, hB⟩
  obtain ⟨h0, h1, h2, n, hn4, en⟩ := hw
  obtain ⟨k, hk7, hk⟩ : ∃ k : Nat, k < 7 ∧ xs (i + 1) = nI k := ⟨(xs (i + 1)).toInt.toNat, by have a := h0.2; have b := h0.1; omega, nI_tI h0.1⟩
  have t0 : (0 : Int32).toInt = 0 := rfl
  have t9 : (9 : Int32).toInt = 9 := rfl
  have hp1 : ¬ xs (i + 2) < 0 := by rw [i_lt, t0]; have := h1.1; omega
  have hp9 : xs (i + 2) ≤ (9 : Int32) := by rw [i_le, t9]; have := h1.2; omega
  have hp2 : f_X11_isBoard (xs (i + 3)) = some 1 := by rw [x_isBoard, if_pos h2]
  have hRc := hR.cl hl0
  have hHc : LH D cy s adX LX (cleanM LX x) adM mm H locs := ⟨by rw [cl_W]; exact hH.1, hH.2⟩
  have ecn : gI (cleanM LX x) 10 3 = nI n := (show gI (cleanM LX x) 10 3 = gI mm 0 0 from hRc.1.1.2.2.1).trans en
  obtain ⟨xN, L', fr, lo, mc, ms, b1, b2, b3, b4, hW, hN⟩ := c_walk (l := l) (sz0 := s.heap.size) (adK := adK) (adV := adV) (D := D) (cy := cy) (q := q) hk7 hp1 hp9 hp2 ecn hn4 hl0 hH.2.2.1 cl_Z (cl_Cl hq hs) hH.2.2.2.2.2.1 hB
  have hRN := rel_walker hRc cl_Z hB hn4 en hk7 h1 h2 hW
  have em := m_walker hn4 en h0 h1 h2
  rw [hk] at em
  obtain ⟨-, -, -, -, -, -, -, u1, u2, u3, u4, u5, u6, u7, u8, u9, u10⟩ := hW
  rw [hk]
  refine L_N (R := room_1) (cells := cells) (slots := slots) (As := [.int (nI k), .int (xs (i + 2)), .int (xs (i + 3))]) (rest := []) (q := (RX11, TX11, 13)) hC hXE EZ_bl hHc hax (hl0 _ mX0) hN kw194 kw195 kw196 kw2 kw197 aL_X11_walker.1 aL_X11_walker.2 rfl rfl hl.1 ⟨(by show fr + 1 ≤ 2048; omega), (by show 8 + (5 + 11) + lo ≤ 84000; omega), (by show cells + mc ≤ 600000; omega), (by show slots + ms ≤ 7302250; omega)⟩ (Nat.le_of_ble_eq_true rfl) dL_law_325 (fun ad' H locs e1 hH => ?_)
  refine lv_aload_n hC.x hC.b dL_law_328 rfl (lv_at hl 1 rfl) ?_
  refine L_arg (pc := 329) (k := 1) (n := 1) hC hXs hbl hH.2.2.2.2.2.2.2 hl rfl dL_law_329 dL_law_330 dL_law_331 dL_law_332 dL_law_333 (by omega) hlen ?_
  refine L_arg (pc := 334) (k := 2) (n := 2) hC hXs hbl hH.2.2.2.2.2.2.2 hl rfl dL_law_334 dL_law_335 dL_law_336 dL_law_337 dL_law_338 (by omega) hlen ?_
  refine L_arg (pc := 339) (k := 3) (n := 3) hC hXs hbl hH.2.2.2.2.2.2.2 hl rfl dL_law_339 dL_law_340 dL_law_341 dL_law_342 dL_law_343 (by omega) hlen ?_
  rw [hk]
  refine L_M (R := room_1) (cells := cells + mc) (slots := slots + ms) (As := [.int (nI k), .int (xs (i + 2)), .int (xs (i + 3))]) (rest := [.int (nI n)]) (q := (RX12, TX12, 74)) hC hXE EZ_bl hH ham (c_X12_walker (l := l) hH.2.2.2.1 lmf_M0 hEM em) kw256 kw257 kw258 kw5 kw259 aL_X12_walker.1 aL_X12_walker.2 rfl rfl hl.1 ⟨Nat.le_of_ble_eq_true rfl, Nat.le_of_ble_eq_true rfl, (by show cells + mc ≤ 600000; omega), (by show slots + ms ≤ 7302250; omega)⟩ (Nat.le_of_ble_eq_true rfl) dL_law_344 (fun H locs hH => ?_)
  refine lv_icmp_eq (tgt := 1396) hC.x hC.b dL_law_347 (by decide) (fun _ => ?_) (fun z => absurd rfl z)
  refine W.widen (k := cells + 4) (n := slots + 40) (by omega) (by omega) ?_
  have hqN : QR L' xN := fun o k b hb => by
    by_cases ho : o ∈ L'
    · exact (u7 o ho).1 k b hb
    · rw [(u6 o ho k).2.2] at hb; cases hb
  exact kk _ _ ⟨ad', L', mWz xN n q k, _, N, q + 1, adM, _, hH, (e1 0 (hl0 _ mX0)).trans hax, ham, hRN, qr_sI (qr_sg hqN (fun b hb => by cases hb; exact u2)), fun o ho c hc => (u7 o ho).2 c hc, fun o ho => u1 o (hl0 o ho), fun o ho => by
    have hv : wnr q k = 128 + 32 * q + 4 * k := rfl
    rcases u5 o ho with z | z
    · have := hB o z; omega
    · omega⟩

theorem a_X12_narrow : noMH yX12_narrow.cls ∧ arity yX12_narrow.desc 2 := by decide +kernel
def f_X12_item (mem : gMem) (p0 : Int32) (p1 : Int32) (p2 : Int64) : Option (Int32 × gMem) := bd (f_X12_isTape p0) fun (x1 : Int32) => if x1 = 0 then (some ((-1 : Int32), mem)) else if okI p0 6 then if 0 ≤ (gI mem 36 (ix p0)) then (if okI p0 6 then bd (f_X12_in p1 (0 : Int32) ((gI mem 37 (ix p0)) - (1 : Int32))) fun (x2 : Int32) => if x2 = 0 then (some ((-13 : Int32), mem)) else if okI p0 6 then bd (f_X12_narrow (gI mem 36 (ix p0)) p2) fun (y3 : Int64) => if okI (((60 : Int32) * p0) + p1) 360 then lt1 (gsJ mem 38 (ix (((60 : Int32) * p0) + p1)) y3) fun (m4 : gMem) => some ((1 : Int32), m4) else none else none else none) else some ((-11 : Int32), mem) else none
set_option maxRecDepth 100000 in
set_option maxHeartbeats 4000000 in
theorem c_X12_item {l : Launch} {E : State → Prop} {D : va_G} {cy : Nat → ClassId} {ad : Nat → Nat} {L : List Nat} {mem : gMem} {p0 : Int32} {p1 : Int32} {p2 : Int64} {rv : Int32} {memz : gMem} (hk : gOk ad L) (hL : ∀ o ∈ LM0, o ∈ L) (hE : gEok ad L E)  (h : f_X12_item mem p0 p1 p2 = some (rv, memz)) : gMet l yX12_item cX12_item 5 (some .int) 2 44 E D cy shM ad L [.ref (ad 0), .int p0, .int p1, .long p2] mem memz (some (.int rv)) := by
  refine g_go (own := RX12) (by decide +kernel) rfl hE (Nat.le_of_ble_eq_true rfl) ?_
  intro p e s m args below meth c R Q hargs hR hQ hEs hC hr hX H locs ls hH hl
  have hF := gF_of hk
  have hl : lv_has ls 5 [(0, .ref (ad 0)), (1, .int p0), (2, .int p1), (3, .long p2)] := hl
  refine lv_aload_n hC.x hC.b dX12_item_0 rfl (lv_at hl 0 rfl) ?_
  refine lv_iload_n hC.x hC.b dX12_item_1 rfl (lv_at hl 1 rfl) ?_
  obtain ⟨x1, hf1, h⟩ := bd_e h
  refine c_V1 (As := [.int p0]) (rest := []) (o := 0) (q := (RX12, TX12, 74)) hC hX hE.2.1 hF hH (c_X12_isTape (l := l) hk hL hE hf1) kw1053 kw1054 kw1055 kw5 kw1056 a_X12_isTape.1 a_X12_isTape.2 (hL _ mM0) sM0 rfl rfl hl.1 (rmk hR (by decide) (by decide)) (Nat.le_of_ble_eq_true rfl) dX12_item_2 (fun H locs hH => ?_)
  refine b_if_ne (tgt := 10) hC dX12_item_5 (by decide) h (fun h => ?_) (fun h => ?_)
  · refine lv_aload_n hC.x hC.b dX12_item_10 rfl (lv_at hl 0 rfl) ?_
    refine r_getc (z := 36) hC hH fl_X12_223_12 (hL _ mM0) sM0 rfl dX12_item_11 ?_
    refine lv_iload_n hC.x hC.b dX12_item_14 rfl (lv_at hl 1 rfl) ?_
    refine r_iald hC hH (hL _ mM36) sM36 h dX12_item_15 (fun h => ?_)
    refine b_if_ge (tgt := 22) hC dX12_item_16 (by decide) h (fun h => ?_) (fun h => ?_)
    · refine lv_aload_n hC.x hC.b dX12_item_22 rfl (lv_at hl 0 rfl) ?_
      refine lv_iload_n hC.x hC.b dX12_item_23 rfl (lv_at hl 2 rfl) ?_
      refine lv_iconst (v := 0) hC.x hC.b dX12_item_24 rfl ?_
      refine lv_aload_n hC.x hC.b dX12_item_25 rfl (lv_at hl 0 rfl) ?_
      refine r_getc (z := 37) hC hH fl_X12_226_12 (hL _ mM0) sM0 rfl dX12_item_26 ?_
      refine lv_iload_n hC.x hC.b dX12_item_29 rfl (lv_at hl 1 rfl) ?_
      refine r_iald hC hH (hL _ mM37) sM37 h dX12_item_30 (fun h => ?_)
      refine lv_iconst (v := 1) hC.x hC.b dX12_item_31 rfl ?_
      refine lv_isub hC.x hC.b dX12_item_32 ?_
      obtain ⟨x2, hf2, h⟩ := bd_e h
      refine c_V1 (As := [.int p1, .int (0 : Int32), .int ((gI mem 37 (ix p0)) - (1 : Int32))]) (rest := []) (o := 0) (q := (RX12, TX12, 74)) hC hX hE.2.1 hF hH (c_X12_in (l := l) hk hL hE hf2) kw167 kw168 kw169 kw5 kw170 a_X12_in.1 a_X12_in.2 (hL _ mM0) sM0 rfl rfl hl.1 (rmk hR (by decide) (by decide)) (Nat.le_of_ble_eq_true rfl) dX12_item_33 (fun H locs hH => ?_)
      refine b_if_ne (tgt := 42) hC dX12_item_36 (by decide) h (fun h => ?_) (fun h => ?_)
      · refine lv_aload_n hC.x hC.b dX12_item_42 rfl (lv_at hl 0 rfl) ?_
        refine r_getc (z := 38) hC hH fl_X12_229_12 (hL _ mM0) sM0 rfl dX12_item_43 ?_
        refine lv_bipush (v := 60) hC.x hC.b dX12_item_46 rfl ?_
        refine lv_iload_n hC.x hC.b dX12_item_48 rfl (lv_at hl 1 rfl) ?_
        refine lv_imul hC.x hC.b dX12_item_49 ?_
        refine lv_iload_n hC.x hC.b dX12_item_50 rfl (lv_at hl 2 rfl) ?_
        refine lv_iadd hC.x hC.b dX12_item_51 ?_
        refine lv_aload_n hC.x hC.b dX12_item_52 rfl (lv_at hl 0 rfl) ?_
        refine lv_aload_n hC.x hC.b dX12_item_53 rfl (lv_at hl 0 rfl) ?_
        refine r_getc (z := 36) hC hH fl_X12_223_12 (hL _ mM0) sM0 rfl dX12_item_54 ?_
        refine lv_iload_n hC.x hC.b dX12_item_57 rfl (lv_at hl 1 rfl) ?_
        refine r_iald hC hH (hL _ mM36) sM36 h dX12_item_58 (fun h => ?_)
        refine lv_lload_n hC.x hC.b dX12_item_59 rfl (lv_at hl 3 rfl) ?_
        obtain ⟨y3, hf3, h⟩ := bd_e h
        refine c_V1 (As := [.int (gI mem 36 (ix p0)), .long p2]) (rest := [.int (((60 : Int32) * p0) + p1), .ref (ad 38)]) (o := 0) (q := (RX12, TX12, 74)) hC hX hE.2.1 hF hH (c_X12_narrow (l := l) hk hL hE hf3) kw1326 kw1327 kw1328 kw5 kw1329 a_X12_narrow.1 a_X12_narrow.2 (hL _ mM0) sM0 rfl rfl hl.1 (rmk hR (by decide) (by decide)) (Nat.le_of_ble_eq_true rfl) dX12_item_60 (fun H locs hH => ?_)
        refine r_last hC hF hH (hL _ mM38) sM38 h dX12_item_63 (fun m4 H locs h hH => ?_)
        refine lv_iconst (v := 1) hC.x hC.b dX12_item_64 rfl ?_
        rw [hQ]
        exact e_i hC hr hH h dX12_item_65
      · refine lv_bipush (v := -13) hC.x hC.b dX12_item_39 rfl ?_
        rw [hQ]
        exact e_i hC hr hH h dX12_item_41
    · refine lv_bipush (v := -11) hC.x hC.b dX12_item_19 rfl ?_
      rw [hQ]
      exact e_i hC hr hH h dX12_item_21
  · refine lv_iconst (v := -1) hC.x hC.b dX12_item_8 rfl ?_
    rw [hQ]
    exact e_i hC hr hH h dX12_item_9
def f_X12_read (mem : gMem) (p0 : Int32) (p1 : Int32) : Option Int64 := bd (f_X12_isTape p0) fun (x1 : Int32) => jn ((some (-9223372036854775808 : Int64)) : Option Int64) fun j2 => if x1 = 0 then (j2) else if okI p0 6 then if (gI mem 36 (ix p0)) < 0 then (j2) else if okI p0 6 then bd (f_X12_in p1 (0 : Int32) ((gI mem 37 (ix p0)) - (1 : Int32))) fun (x3 : Int32) => if x3 = 0 then (j2) else if okI (((60 : Int32) * p0) + p1) 360 then some (gJ mem 38 (ix (((60 : Int32) * p0) + p1))) else none else none else none
set_option maxRecDepth 100000 in
set_option maxHeartbeats 4000000 in
theorem c_X12_read {l : Launch} {E : State → Prop} {D : va_G} {cy : Nat → ClassId} {ad : Nat → Nat} {L : List Nat} {mem : gMem} {p0 : Int32} {p1 : Int32} {rv : Int64} (hk : gOk ad L) (hL : ∀ o ∈ LM0, o ∈ L) (hE : gEok ad L E)  (h : f_X12_read mem p0 p1 = some rv) : gMet l yX12_read cX12_read 3 (some .long) 2 44 E D cy shM ad L [.ref (ad 0), .int p0, .int p1] mem mem (some (.long rv)) := by
  refine g_go (own := RX12) (by decide +kernel) rfl hE (Nat.le_of_ble_eq_true rfl) ?_
  intro p e s m args below meth c R Q hargs hR hQ hEs hC hr hX H locs ls hH hl
  have hF := gF_of hk
  have hl : lv_has ls 3 [(0, .ref (ad 0)), (1, .int p0), (2, .int p1)] := hl
  refine lv_aload_n hC.x hC.b dX12_read_0 rfl (lv_at hl 0 rfl) ?_
  refine lv_iload_n hC.x hC.b dX12_read_1 rfl (lv_at hl 1 rfl) ?_
  obtain ⟨x1, hf1, h⟩ := bd_e h
  refine c_V1 (As := [.int p0]) (rest := []) (o := 0) (q := (RX12, TX12, 74)) hC hX hE.2.1 hF hH (c_X12_isTape (l := l) hk hL hE hf1) kw1053 kw1054 kw1055 kw5 kw1056 a_X12_isTape.1 a_X12_isTape.2 (hL _ mM0) sM0 rfl rfl hl.1 (rmk hR (by decide) (by decide)) (Nat.le_of_ble_eq_true rfl) dX12_read_2 (fun H locs hH => ?_)
  obtain ⟨j2, ej2, h⟩ := jn_e h
  have hj2 : ∀  (H : Heap) (locs : List Loc) (ls : Array Slot), j2 = some rv → gH D cy shM ad L (gA ad L) s.heap mem H locs → lv_has ls 3 [] → W p l e R s m args below meth c H locs 0 0 Q (F0 m 34 ls []) := by
    intro H locs ls h hH hl
    have h := ap0 ej2 h
    refine lv_ldc2 (v := -9223372036854775808) hC.x hC.b hC.ow (hC.ts _ kw1006) dX12_read_34 ?_
    refine lv_goto (tgt := 51) hC.x hC.b dX12_read_37 (by decide) ?_
    rw [hQ]
    exact e_lr hC hr hH h dX12_read_51
  clear ej2
  refine b_if_eq (tgt := 34) hC dX12_read_5 (by decide) h (fun h => ?_) (fun h => ?_)
  · exact hj2  H locs ls h hH (lv_sub hl [] rfl)
  · refine lv_aload_n hC.x hC.b dX12_read_8 rfl (lv_at hl 0 rfl) ?_
    refine r_getc (z := 36) hC hH fl_X12_223_12 (hL _ mM0) sM0 rfl dX12_read_9 ?_
    refine lv_iload_n hC.x hC.b dX12_read_12 rfl (lv_at hl 1 rfl) ?_
    refine r_iald hC hH (hL _ mM36) sM36 h dX12_read_13 (fun h => ?_)
    refine b_if_lt (tgt := 34) hC dX12_read_14 (by decide) h (fun h => ?_) (fun h => ?_)
    · exact hj2  H locs ls h hH (lv_sub hl [] rfl)
    · refine lv_aload_n hC.x hC.b dX12_read_17 rfl (lv_at hl 0 rfl) ?_
      refine lv_iload_n hC.x hC.b dX12_read_18 rfl (lv_at hl 2 rfl) ?_
      refine lv_iconst (v := 0) hC.x hC.b dX12_read_19 rfl ?_
      refine lv_aload_n hC.x hC.b dX12_read_20 rfl (lv_at hl 0 rfl) ?_
      refine r_getc (z := 37) hC hH fl_X12_226_12 (hL _ mM0) sM0 rfl dX12_read_21 ?_
      refine lv_iload_n hC.x hC.b dX12_read_24 rfl (lv_at hl 1 rfl) ?_
      refine r_iald hC hH (hL _ mM37) sM37 h dX12_read_25 (fun h => ?_)
      refine lv_iconst (v := 1) hC.x hC.b dX12_read_26 rfl ?_
      refine lv_isub hC.x hC.b dX12_read_27 ?_
      obtain ⟨x3, hf3, h⟩ := bd_e h
      refine c_V1 (As := [.int p1, .int (0 : Int32), .int ((gI mem 37 (ix p0)) - (1 : Int32))]) (rest := []) (o := 0) (q := (RX12, TX12, 74)) hC hX hE.2.1 hF hH (c_X12_in (l := l) hk hL hE hf3) kw167 kw168 kw169 kw5 kw170 a_X12_in.1 a_X12_in.2 (hL _ mM0) sM0 rfl rfl hl.1 (rmk hR (by decide) (by decide)) (Nat.le_of_ble_eq_true rfl) dX12_read_28 (fun H locs hH => ?_)
      refine b_if_ne (tgt := 40) hC dX12_read_31 (by decide) h (fun h => ?_) (fun h => ?_)
      · refine lv_aload_n hC.x hC.b dX12_read_40 rfl (lv_at hl 0 rfl) ?_
        refine r_getc (z := 38) hC hH fl_X12_229_12 (hL _ mM0) sM0 rfl dX12_read_41 ?_
        refine lv_bipush (v := 60) hC.x hC.b dX12_read_44 rfl ?_
        refine lv_iload_n hC.x hC.b dX12_read_46 rfl (lv_at hl 1 rfl) ?_
        refine lv_imul hC.x hC.b dX12_read_47 ?_
        refine lv_iload_n hC.x hC.b dX12_read_48 rfl (lv_at hl 2 rfl) ?_
        refine lv_iadd hC.x hC.b dX12_read_49 ?_
        refine r_lald hC hH (hL _ mM38) sM38 h dX12_read_50 (fun h => ?_)
        rw [hQ]
        exact e_lr hC hr hH h dX12_read_51
      · exact hj2  H locs ls h hH (lv_sub hl [] rfl)
theorem fl_X12_233_12 : gFl RX12 233 12 73 := ⟨RX12, TX12, 74, "OnTiptoeModel", rfl, inW12, by decide, kw150, Or.inl rfl⟩
def s_X12_shift_141 (p4 : Int32) (p2 : Int32) (p3 : Int32) (self10 : Int32 → gMem → Option (Int32 × gMem)) (x11 : Int32) (m12 : gMem) : Option (Int32 × gMem) := if p4 ≤ x11 then (some (p4, m12)) else if okI x11 60 then if okI ((((60 : Int32) * p2) + p3) + x11) 360 then lt1 (gsJ m12 38 (ix ((((60 : Int32) * p2) + p3) + x11)) (gJ m12 39 (ix x11))) fun (m13 : gMem) => lt1 (x11 + (1 : Int32)) fun (x14 : Int32) => (self10 x14 m13) else none else none
def s_X12_shift_104 (p4 : Int32) (j3 : gMem → Option (Int32 × gMem)) (p0 : Int32) (p1 : Int32) (self4 : Int32 → gMem → Option (Int32 × gMem)) (x5 : Int32) (m6 : gMem) : Option (Int32 × gMem) := if p4 ≤ x5 then ((j3 m6)) else if okI ((((60 : Int32) * p0) + p1) + x5) 360 then if okI x5 60 then lt1 (gsJ m6 39 (ix x5) (gJ m6 38 (ix ((((60 : Int32) * p0) + p1) + x5)))) fun (m7 : gMem) => lt1 (x5 + (1 : Int32)) fun (x8 : Int32) => (self4 x8 m7) else none else none
def f_X12_shift (mem : gMem) (p0 : Int32) (p1 : Int32) (p2 : Int32) (p3 : Int32) (p4 : Int32) : Option (Int32 × gMem) := bd (f_X12_isTape p0) fun (x1 : Int32) => if x1 = 0 then (some ((-1 : Int32), mem)) else bd (f_X12_isTape p2) fun (x2 : Int32) => if x2 = 0 then (some ((-1 : Int32), mem)) else if okI p0 6 then if (gI mem 36 (ix p0)) < 0 then (some ((-11 : Int32), mem)) else if okI p2 6 then if 0 ≤ (gI mem 36 (ix p2)) then (if okI p0 6 then if okI p2 6 then if (gI mem 36 (ix p0)) = (gI mem 36 (ix p2)) then (if p4 < 0 then (some ((-13 : Int32), mem)) else if p1 < 0 then (some ((-13 : Int32), mem)) else if p3 < 0 then (some ((-13 : Int32), mem)) else if okI p0 6 then if ((gI mem 37 (ix p0)) - p4) < p1 then (some ((-13 : Int32), mem)) else if okI p2 6 then if p3 ≤ ((gI mem 37 (ix p2)) - p4) then (jn ((fun (m9 : gMem) => lq2 (s_X12_shift_141 p4 p2 p3) 1000 (0 : Int32) m9) : gMem → Option (Int32 × gMem)) fun j3 => lq2 (s_X12_shift_104 p4 j3 p0 p1) 1000 (0 : Int32) mem) else some ((-13 : Int32), mem) else none else none) else some ((-12 : Int32), mem) else none else none) else some ((-11 : Int32), mem) else none else none
set_option maxRecDepth 100000 in
set_option maxHeartbeats 4000000 in
theorem c_X12_shift {l : Launch} {E : State → Prop} {D : va_G} {cy : Nat → ClassId} {ad : Nat → Nat} {L : List Nat} {mem : gMem} {p0 : Int32} {p1 : Int32} {p2 : Int32} {p3 : Int32} {p4 : Int32} {rv : Int32} {memz : gMem} (hk : gOk ad L) (hL : ∀ o ∈ LM0, o ∈ L) (hE : gEok ad L E)  (h : f_X12_shift mem p0 p1 p2 p3 p4 = some (rv, memz)) : gMet l yX12_shift cX12_shift 7 (some .int) 2 44 E D cy shM ad L [.ref (ad 0), .int p0, .int p1, .int p2, .int p3, .int p4] mem memz (some (.int rv)) := by
  refine g_go (own := RX12) (by decide +kernel) rfl hE (Nat.le_of_ble_eq_true rfl) ?_
  intro p e s m args below meth c R Q hargs hR hQ hEs hC hr hX H locs ls hH hl
  have hF := gF_of hk
  have hl : lv_has ls 7 [(0, .ref (ad 0)), (1, .int p0), (2, .int p1), (3, .int p2), (4, .int p3), (5, .int p4)] := hl
  refine lv_aload_n hC.x hC.b dX12_shift_0 rfl (lv_at hl 0 rfl) ?_
  refine lv_iload_n hC.x hC.b dX12_shift_1 rfl (lv_at hl 1 rfl) ?_
  obtain ⟨x1, hf1, h⟩ := bd_e h
  refine c_V1 (As := [.int p0]) (rest := []) (o := 0) (q := (RX12, TX12, 74)) hC hX hE.2.1 hF hH (c_X12_isTape (l := l) hk hL hE hf1) kw1053 kw1054 kw1055 kw5 kw1056 a_X12_isTape.1 a_X12_isTape.2 (hL _ mM0) sM0 rfl rfl hl.1 (rmk hR (by decide) (by decide)) (Nat.le_of_ble_eq_true rfl) dX12_shift_2 (fun H locs hH => ?_)
  refine b_if_eq (tgt := 16) hC dX12_shift_5 (by decide) h (fun h => ?_) (fun h => ?_)
  · refine lv_iconst (v := -1) hC.x hC.b dX12_shift_16 rfl ?_
    rw [hQ]
    exact e_i hC hr hH h dX12_shift_17
  · refine lv_aload_n hC.x hC.b dX12_shift_8 rfl (lv_at hl 0 rfl) ?_
    refine lv_iload_n hC.x hC.b dX12_shift_9 rfl (lv_at hl 3 rfl) ?_
    obtain ⟨x2, hf2, h⟩ := bd_e h
    refine c_V1 (As := [.int p2]) (rest := []) (o := 0) (q := (RX12, TX12, 74)) hC hX hE.2.1 hF hH (c_X12_isTape (l := l) hk hL hE hf2) kw1053 kw1054 kw1055 kw5 kw1056 a_X12_isTape.1 a_X12_isTape.2 (hL _ mM0) sM0 rfl rfl hl.1 (rmk hR (by decide) (by decide)) (Nat.le_of_ble_eq_true rfl) dX12_shift_10 (fun H locs hH => ?_)
    refine b_if_ne (tgt := 18) hC dX12_shift_13 (by decide) h (fun h => ?_) (fun h => ?_)
    · refine lv_aload_n hC.x hC.b dX12_shift_18 rfl (lv_at hl 0 rfl) ?_
      refine r_getc (z := 36) hC hH fl_X12_223_12 (hL _ mM0) sM0 rfl dX12_shift_19 ?_
      refine lv_iload_n hC.x hC.b dX12_shift_22 rfl (lv_at hl 1 rfl) ?_
      refine r_iald hC hH (hL _ mM36) sM36 h dX12_shift_23 (fun h => ?_)
      refine b_if_lt (tgt := 36) hC dX12_shift_24 (by decide) h (fun h => ?_) (fun h => ?_)
      · refine lv_bipush (v := -11) hC.x hC.b dX12_shift_36 rfl ?_
        rw [hQ]
        exact e_i hC hr hH h dX12_shift_38
      · refine lv_aload_n hC.x hC.b dX12_shift_27 rfl (lv_at hl 0 rfl) ?_
        refine r_getc (z := 36) hC hH fl_X12_223_12 (hL _ mM0) sM0 rfl dX12_shift_28 ?_
        refine lv_iload_n hC.x hC.b dX12_shift_31 rfl (lv_at hl 3 rfl) ?_
        refine r_iald hC hH (hL _ mM36) sM36 h dX12_shift_32 (fun h => ?_)
        refine b_if_ge (tgt := 39) hC dX12_shift_33 (by decide) h (fun h => ?_) (fun h => ?_)
        · refine lv_aload_n hC.x hC.b dX12_shift_39 rfl (lv_at hl 0 rfl) ?_
          refine r_getc (z := 36) hC hH fl_X12_223_12 (hL _ mM0) sM0 rfl dX12_shift_40 ?_
          refine lv_iload_n hC.x hC.b dX12_shift_43 rfl (lv_at hl 1 rfl) ?_
          refine r_iald hC hH (hL _ mM36) sM36 h dX12_shift_44 (fun h => ?_)
          refine lv_aload_n hC.x hC.b dX12_shift_45 rfl (lv_at hl 0 rfl) ?_
          refine r_getc (z := 36) hC hH fl_X12_223_12 (hL _ mM0) sM0 rfl dX12_shift_46 ?_
          refine lv_iload_n hC.x hC.b dX12_shift_49 rfl (lv_at hl 3 rfl) ?_
          refine r_iald hC hH (hL _ mM36) sM36 h dX12_shift_50 (fun h => ?_)
          refine b_ic_eq (tgt := 57) hC dX12_shift_51 (by decide) h (fun h => ?_) (fun h => ?_)
          · refine lv_iload hC.x hC.b dX12_shift_57 (lv_at hl 5 rfl) ?_
            refine b_if_lt (tgt := 98) hC dX12_shift_59 (by decide) h (fun h => ?_) (fun h => ?_)
            · refine lv_bipush (v := -13) hC.x hC.b dX12_shift_98 rfl ?_
              rw [hQ]
              exact e_i hC hr hH h dX12_shift_100
            · refine lv_iload_n hC.x hC.b dX12_shift_62 rfl (lv_at hl 2 rfl) ?_
              refine b_if_lt (tgt := 98) hC dX12_shift_63 (by decide) h (fun h => ?_) (fun h => ?_)
              · refine lv_bipush (v := -13) hC.x hC.b dX12_shift_98 rfl ?_
                rw [hQ]
                exact e_i hC hr hH h dX12_shift_100
              · refine lv_iload hC.x hC.b dX12_shift_66 (lv_at hl 4 rfl) ?_
                refine b_if_lt (tgt := 98) hC dX12_shift_68 (by decide) h (fun h => ?_) (fun h => ?_)
                · refine lv_bipush (v := -13) hC.x hC.b dX12_shift_98 rfl ?_
                  rw [hQ]
                  exact e_i hC hr hH h dX12_shift_100
                · refine lv_iload_n hC.x hC.b dX12_shift_71 rfl (lv_at hl 2 rfl) ?_
                  refine lv_aload_n hC.x hC.b dX12_shift_72 rfl (lv_at hl 0 rfl) ?_
                  refine r_getc (z := 37) hC hH fl_X12_226_12 (hL _ mM0) sM0 rfl dX12_shift_73 ?_
                  refine lv_iload_n hC.x hC.b dX12_shift_76 rfl (lv_at hl 1 rfl) ?_
                  refine r_iald hC hH (hL _ mM37) sM37 h dX12_shift_77 (fun h => ?_)
                  refine lv_iload hC.x hC.b dX12_shift_78 (lv_at hl 5 rfl) ?_
                  refine lv_isub hC.x hC.b dX12_shift_80 ?_
                  refine b_ic_gt (tgt := 98) hC dX12_shift_81 (by decide) h (fun h => ?_) (fun h => ?_)
                  · refine lv_bipush (v := -13) hC.x hC.b dX12_shift_98 rfl ?_
                    rw [hQ]
                    exact e_i hC hr hH h dX12_shift_100
                  · refine lv_iload hC.x hC.b dX12_shift_84 (lv_at hl 4 rfl) ?_
                    refine lv_aload_n hC.x hC.b dX12_shift_86 rfl (lv_at hl 0 rfl) ?_
                    refine r_getc (z := 37) hC hH fl_X12_226_12 (hL _ mM0) sM0 rfl dX12_shift_87 ?_
                    refine lv_iload_n hC.x hC.b dX12_shift_90 rfl (lv_at hl 3 rfl) ?_
                    refine r_iald hC hH (hL _ mM37) sM37 h dX12_shift_91 (fun h => ?_)
                    refine lv_iload hC.x hC.b dX12_shift_92 (lv_at hl 5 rfl) ?_
                    refine lv_isub hC.x hC.b dX12_shift_94 ?_
                    refine b_ic_le (tgt := 101) hC dX12_shift_95 (by decide) h (fun h => ?_) (fun h => ?_)
                    · refine lv_iconst (v := 0) hC.x hC.b dX12_shift_101 rfl ?_
                      refine lv_istore (lv' := [(6, .int (0 : Int32)), (0, .ref (ad 0)), (1, .int p0), (2, .int p1), (3, .int p2), (4, .int p3), (5, .int p4)]) hC.x hC.b dX12_shift_102 hl (by decide) rfl (fun ls hl => ?_)
                      obtain ⟨j3, ej3, h⟩ := jn_e h
                      have hj3 : ∀ (m9 : gMem) (H : Heap) (locs : List Loc) (ls : Array Slot), (j3 m9) = some (rv, memz) → gH D cy shM ad L (gA ad L) s.heap m9 H locs → lv_has ls 7 [(0, .ref (ad 0)), (3, .int p2), (4, .int p3), (5, .int p4)] → W p l e R s m args below meth c H locs 0 0 Q (F0 m 138 ls []) := by
                        intro m9 H locs ls h hH hl
                        have h := ap1 ej3 h
                        refine lv_iconst (v := 0) hC.x hC.b dX12_shift_138 rfl ?_
                        refine lv_istore (lv' := [(6, .int (0 : Int32)), (0, .ref (ad 0)), (3, .int p2), (4, .int p3), (5, .int p4)]) hC.x hC.b dX12_shift_139 hl (by decide) rfl (fun ls hl => ?_)
                        have hl10 : ∀ (n : Nat) (x11 : Int32) (m12 : gMem) (H : Heap) (locs : List Loc) (ls : Array Slot), lq2 (s_X12_shift_141 p4 p2 p3) n x11 m12 = some (rv, memz) → gH D cy shM ad L (gA ad L) s.heap m12 H locs → lv_has ls 7 [(0, .ref (ad 0)), (3, .int p2), (4, .int p3), (5, .int p4), (6, .int x11)] → W p l e R s m args below meth c H locs 0 0 Q (F0 m 141 ls []) := by
                          intro n
                          induction n with
                          | zero => intro x11 m12 H locs ls h _ _; exact lq2_0 h
                          | succ n ih10 =>
                            intro x11 m12 H locs ls h hH hl
                            obtain ⟨self10, es10, h⟩ := lq2_s h
                            refine lv_iload hC.x hC.b dX12_shift_141 (lv_at hl 4 rfl) ?_
                            refine lv_iload hC.x hC.b dX12_shift_143 (lv_at hl 3 rfl) ?_
                            refine b_ic_ge (tgt := 176) hC dX12_shift_145 (by decide) h (fun h => ?_) (fun h => ?_)
                            · refine lv_iload hC.x hC.b dX12_shift_176 (lv_at hl 3 rfl) ?_
                              rw [hQ]
                              exact e_i hC hr hH h dX12_shift_178
                            · refine lv_aload_n hC.x hC.b dX12_shift_148 rfl (lv_at hl 0 rfl) ?_
                              refine r_getc (z := 38) hC hH fl_X12_229_12 (hL _ mM0) sM0 rfl dX12_shift_149 ?_
                              refine lv_bipush (v := 60) hC.x hC.b dX12_shift_152 rfl ?_
                              refine lv_iload_n hC.x hC.b dX12_shift_154 rfl (lv_at hl 1 rfl) ?_
                              refine lv_imul hC.x hC.b dX12_shift_155 ?_
                              refine lv_iload hC.x hC.b dX12_shift_156 (lv_at hl 2 rfl) ?_
                              refine lv_iadd hC.x hC.b dX12_shift_158 ?_
                              refine lv_iload hC.x hC.b dX12_shift_159 (lv_at hl 4 rfl) ?_
                              refine lv_iadd hC.x hC.b dX12_shift_161 ?_
                              refine lv_aload_n hC.x hC.b dX12_shift_162 rfl (lv_at hl 0 rfl) ?_
                              refine r_getc (z := 39) hC hH fl_X12_233_12 (hL _ mM0) sM0 rfl dX12_shift_163 ?_
                              refine lv_iload hC.x hC.b dX12_shift_166 (lv_at hl 4 rfl) ?_
                              refine r_lald hC hH (hL _ mM39) sM39 h dX12_shift_168 (fun h => ?_)
                              refine r_last hC hF hH (hL _ mM38) sM38 h dX12_shift_169 (fun m13 H locs h hH => ?_)
                              refine i_inc (lv' := fun x14 => [(6, .int x14), (0, .ref (ad 0)), (3, .int p2), (4, .int p3), (5, .int p4)]) hC dX12_shift_170 hl (k := 4) rfl (by decide) (fun _ => rfl) (z := 1) rfl h (fun x14 ls h hl => ?_)
                              refine lv_goto (tgt := 141) hC.x hC.b dX12_shift_173 (by decide) ?_
                              exact ih10 x14 m13 H locs ls (ap2 es10 h) hH (lv_sub hl [1, 2, 3, 4, 0] rfl)
                        exact hl10 _ (0 : Int32) m9 H locs ls h hH (lv_sub hl [1, 2, 3, 4, 0] rfl)
                      clear ej3
                      have hl4 : ∀ (n : Nat) (x5 : Int32) (m6 : gMem) (H : Heap) (locs : List Loc) (ls : Array Slot), lq2 (s_X12_shift_104 p4 j3 p0 p1) n x5 m6 = some (rv, memz) → gH D cy shM ad L (gA ad L) s.heap m6 H locs → lv_has ls 7 [(0, .ref (ad 0)), (1, .int p0), (2, .int p1), (3, .int p2), (4, .int p3), (5, .int p4), (6, .int x5)] → W p l e R s m args below meth c H locs 0 0 Q (F0 m 104 ls []) := by
                        intro n
                        induction n with
                        | zero => intro x5 m6 H locs ls h _ _; exact lq2_0 h
                        | succ n ih4 =>
                          intro x5 m6 H locs ls h hH hl
                          obtain ⟨self4, es4, h⟩ := lq2_s h
                          refine lv_iload hC.x hC.b dX12_shift_104 (lv_at hl 6 rfl) ?_
                          refine lv_iload hC.x hC.b dX12_shift_106 (lv_at hl 5 rfl) ?_
                          refine b_ic_ge (tgt := 138) hC dX12_shift_108 (by decide) h (fun h => ?_) (fun h => ?_)
                          · exact hj3 m6 H locs ls h hH (lv_sub hl [0, 3, 4, 5] rfl)
                          · refine lv_aload_n hC.x hC.b dX12_shift_111 rfl (lv_at hl 0 rfl) ?_
                            refine r_getc (z := 39) hC hH fl_X12_233_12 (hL _ mM0) sM0 rfl dX12_shift_112 ?_
                            refine lv_iload hC.x hC.b dX12_shift_115 (lv_at hl 6 rfl) ?_
                            refine lv_aload_n hC.x hC.b dX12_shift_117 rfl (lv_at hl 0 rfl) ?_
                            refine r_getc (z := 38) hC hH fl_X12_229_12 (hL _ mM0) sM0 rfl dX12_shift_118 ?_
                            refine lv_bipush (v := 60) hC.x hC.b dX12_shift_121 rfl ?_
                            refine lv_iload_n hC.x hC.b dX12_shift_123 rfl (lv_at hl 1 rfl) ?_
                            refine lv_imul hC.x hC.b dX12_shift_124 ?_
                            refine lv_iload_n hC.x hC.b dX12_shift_125 rfl (lv_at hl 2 rfl) ?_
                            refine lv_iadd hC.x hC.b dX12_shift_126 ?_
                            refine lv_iload hC.x hC.b dX12_shift_127 (lv_at hl 6 rfl) ?_
                            refine lv_iadd hC.x hC.b dX12_shift_129 ?_
                            refine r_lald hC hH (hL _ mM38) sM38 h dX12_shift_130 (fun h => ?_)
                            refine r_last hC hF hH (hL _ mM39) sM39 h dX12_shift_131 (fun m7 H locs h hH => ?_)
                            refine i_inc (lv' := fun x8 => [(6, .int x8), (0, .ref (ad 0)), (1, .int p0), (2, .int p1), (3, .int p2), (4, .int p3), (5, .int p4)]) hC dX12_shift_132 hl (k := 6) rfl (by decide) (fun _ => rfl) (z := 1) rfl h (fun x8 ls h hl => ?_)
                            refine lv_goto (tgt := 104) hC.x hC.b dX12_shift_135 (by decide) ?_
                            exact ih4 x8 m7 H locs ls (ap2 es4 h) hH (lv_sub hl [1, 2, 3, 4, 5, 6, 0] rfl)
                      exact hl4 _ (0 : Int32) mem H locs ls h hH (lv_sub hl [1, 2, 3, 4, 5, 6, 0] rfl)
                    · refine lv_bipush (v := -13) hC.x hC.b dX12_shift_98 rfl ?_
                      rw [hQ]
                      exact e_i hC hr hH h dX12_shift_100
          · refine lv_bipush (v := -12) hC.x hC.b dX12_shift_54 rfl ?_
            rw [hQ]
            exact e_i hC hr hH h dX12_shift_56
        · refine lv_bipush (v := -11) hC.x hC.b dX12_shift_36 rfl ?_
          rw [hQ]
          exact e_i hC hr hH h dX12_shift_38
    · refine lv_iconst (v := -1) hC.x hC.b dX12_shift_16 rfl ?_
      rw [hQ]
      exact e_i hC hr hH h dX12_shift_17
theorem a_X12_place : noMH yX12_place.cls ∧ arity yX12_place.desc 1 := by decide +kernel
theorem a_X12_takesNumber : noMH yX12_takesNumber.cls ∧ arity yX12_takesNumber.desc 0 := by decide +kernel
theorem a_X12_whole : noMH yX12_whole.cls ∧ arity yX12_whole.desc 0 := by decide +kernel
def f_X12_takesTest (mem : gMem) : Option (Int32 × gMem) := bd (f_X12_next mem) fun (x1 : Int32) => bd (f_X12_place x1) fun (x2 : Int32) => if 0 ≤ x2 then (lt1 (gsI mem 0 14 ((gI mem 0 14) + (1 : Int32))) fun (m3 : gMem) => bd (f_X12_next m3) fun (x4 : Int32) => bd (f_X12_in x4 (60 : Int32) (62 : Int32)) fun (x5 : Int32) => if x5 = 0 then (some ((0 : Int32), m3)) else lt1 (gsI m3 0 14 ((gI m3 0 14) + (1 : Int32))) fun (m6 : gMem) => bd2 (f_X12_takesNumber m6) fun (x8 : Int32) (m7 : gMem) => if x8 = 0 then (some ((0 : Int32), m7)) else bd (f_X12_emits m7 ((((1000 : Int32) * x2) + ((100 : Int32) * (x4 - (60 : Int32)))) + (gI m7 0 15))) fun (m9 : gMem) => bd (f_X12_whole m9) fun (m10 : gMem) => some ((1 : Int32), m10)) else some ((0 : Int32), mem)
set_option maxRecDepth 100000 in
set_option maxHeartbeats 4000000 in
theorem c_X12_takesTest {l : Launch} {E : State → Prop} {D : va_G} {cy : Nat → ClassId} {ad : Nat → Nat} {L : List Nat} {mem : gMem} {rv : Int32} {memz : gMem} (hk : gOk ad L) (hL : ∀ o ∈ LM0, o ∈ L) (hE : gEok ad L E)  (h : f_X12_takesTest mem = some (rv, memz)) : gMet l yX12_takesTest cX12_takesTest 3 (some .boolean) 3 64 E D cy shM ad L [.ref (ad 0)] mem memz (some (.int rv)) := by
  refine g_go (own := RX12) (by decide +kernel) rfl hE (Nat.le_of_ble_eq_true rfl) ?_
  intro p e s m args below meth c R Q hargs hR hQ hEs hC hr hX H locs ls hH hl
  have hF := gF_of hk
  have hl : lv_has ls 3 [(0, .ref (ad 0))] := hl
  refine lv_aload_n hC.x hC.b dX12_takesTest_0 rfl (lv_at hl 0 rfl) ?_
  refine lv_aload_n hC.x hC.b dX12_takesTest_1 rfl (lv_at hl 0 rfl) ?_
  obtain ⟨x1, hf1, h⟩ := bd_e h
  refine c_V1 (As := []) (rest := [.ref (ad 0)]) (o := 0) (q := (RX12, TX12, 74)) hC hX hE.2.1 hF hH (c_X12_next (l := l) hk hL hE hf1) kw645 kw646 kw647 kw5 kw648 a_X12_next.1 a_X12_next.2 (hL _ mM0) sM0 rfl rfl hl.1 (rmk hR (by decide) (by decide)) (Nat.le_of_ble_eq_true rfl) dX12_takesTest_2 (fun H locs hH => ?_)
  obtain ⟨x2, hf2, h⟩ := bd_e h
  refine c_V1 (As := [.int x1]) (rest := []) (o := 0) (q := (RX12, TX12, 74)) hC hX hE.2.1 hF hH (c_X12_place (l := l) hk hL hE hf2) kw673 kw674 kw675 kw5 kw676 a_X12_place.1 a_X12_place.2 (hL _ mM0) sM0 rfl rfl hl.1 (rmk hR (by decide) (by decide)) (Nat.le_of_ble_eq_true rfl) dX12_takesTest_5 (fun H locs hH => ?_)
  refine lv_istore_n (lv' := [(1, .int x2), (0, .ref (ad 0))]) hC.x hC.b dX12_takesTest_8 rfl hl (by decide) rfl (fun ls hl => ?_)
  refine lv_iload_n hC.x hC.b dX12_takesTest_9 rfl (lv_at hl 0 rfl) ?_
  refine b_if_ge (tgt := 15) hC dX12_takesTest_10 (by decide) h (fun h => ?_) (fun h => ?_)
  · refine lv_aload_n hC.x hC.b dX12_takesTest_15 rfl (lv_at hl 1 rfl) ?_
    refine lv_dup hC.x hC.b dX12_takesTest_16 rfl ?_
    refine r_geti hC hH fl_X12_54_12 (hL _ mM0) sM0 rfl dX12_takesTest_17 ?_
    refine lv_iconst (v := 1) hC.x hC.b dX12_takesTest_20 rfl ?_
    refine lv_iadd hC.x hC.b dX12_takesTest_21 ?_
    refine r_puti hC hF hH pl_X12_54_12 (hL _ mM0) sM0 rfl h dX12_takesTest_22 (fun m3 H locs h hH => ?_)
    refine lv_aload_n hC.x hC.b dX12_takesTest_25 rfl (lv_at hl 1 rfl) ?_
    obtain ⟨x4, hf4, h⟩ := bd_e h
    refine c_V1 (As := []) (rest := []) (o := 0) (q := (RX12, TX12, 74)) hC hX hE.2.1 hF hH (c_X12_next (l := l) hk hL hE hf4) kw645 kw646 kw647 kw5 kw648 a_X12_next.1 a_X12_next.2 (hL _ mM0) sM0 rfl rfl hl.1 (rmk hR (by decide) (by decide)) (Nat.le_of_ble_eq_true rfl) dX12_takesTest_26 (fun H locs hH => ?_)
    refine lv_istore_n (lv' := [(2, .int x4), (1, .int x2), (0, .ref (ad 0))]) hC.x hC.b dX12_takesTest_29 rfl hl (by decide) rfl (fun ls hl => ?_)
    refine lv_aload_n hC.x hC.b dX12_takesTest_30 rfl (lv_at hl 2 rfl) ?_
    refine lv_iload_n hC.x hC.b dX12_takesTest_31 rfl (lv_at hl 0 rfl) ?_
    refine lv_bipush (v := 60) hC.x hC.b dX12_takesTest_32 rfl ?_
    refine lv_bipush (v := 62) hC.x hC.b dX12_takesTest_34 rfl ?_
    obtain ⟨x5, hf5, h⟩ := bd_e h
    refine c_V1 (As := [.int x4, .int (60 : Int32), .int (62 : Int32)]) (rest := []) (o := 0) (q := (RX12, TX12, 74)) hC hX hE.2.1 hF hH (c_X12_in (l := l) hk hL hE hf5) kw167 kw168 kw169 kw5 kw170 a_X12_in.1 a_X12_in.2 (hL _ mM0) sM0 rfl rfl hl.1 (rmk hR (by decide) (by decide)) (Nat.le_of_ble_eq_true rfl) dX12_takesTest_36 (fun H locs hH => ?_)
    refine b_if_ne (tgt := 44) hC dX12_takesTest_39 (by decide) h (fun h => ?_) (fun h => ?_)
    · refine lv_aload_n hC.x hC.b dX12_takesTest_44 rfl (lv_at hl 2 rfl) ?_
      refine lv_dup hC.x hC.b dX12_takesTest_45 rfl ?_
      refine r_geti hC hH fl_X12_54_12 (hL _ mM0) sM0 rfl dX12_takesTest_46 ?_
      refine lv_iconst (v := 1) hC.x hC.b dX12_takesTest_49 rfl ?_
      refine lv_iadd hC.x hC.b dX12_takesTest_50 ?_
      refine r_puti hC hF hH pl_X12_54_12 (hL _ mM0) sM0 rfl h dX12_takesTest_51 (fun m6 H locs h hH => ?_)
      refine lv_aload_n hC.x hC.b dX12_takesTest_54 rfl (lv_at hl 2 rfl) ?_
      obtain ⟨x8, m7, hf8, h⟩ := bd2_e h
      refine c_V1 (As := []) (rest := []) (o := 0) (q := (RX12, TX12, 74)) hC hX hE.2.1 hF hH (c_X12_takesNumber (l := l) hk hL hE hf8) kw657 kw658 kw659 kw5 kw660 a_X12_takesNumber.1 a_X12_takesNumber.2 (hL _ mM0) sM0 rfl rfl hl.1 (rmk hR (by decide) (by decide)) (Nat.le_of_ble_eq_true rfl) dX12_takesTest_55 (fun H locs hH => ?_)
      refine b_if_ne (tgt := 63) hC dX12_takesTest_58 (by decide) h (fun h => ?_) (fun h => ?_)
      · refine lv_aload_n hC.x hC.b dX12_takesTest_63 rfl (lv_at hl 2 rfl) ?_
        refine lv_sipush (v := 1000) hC.x hC.b dX12_takesTest_64 rfl ?_
        refine lv_iload_n hC.x hC.b dX12_takesTest_67 rfl (lv_at hl 1 rfl) ?_
        refine lv_imul hC.x hC.b dX12_takesTest_68 ?_
        refine lv_bipush (v := 100) hC.x hC.b dX12_takesTest_69 rfl ?_
        refine lv_iload_n hC.x hC.b dX12_takesTest_71 rfl (lv_at hl 0 rfl) ?_
        refine lv_bipush (v := 60) hC.x hC.b dX12_takesTest_72 rfl ?_
        refine lv_isub hC.x hC.b dX12_takesTest_74 ?_
        refine lv_imul hC.x hC.b dX12_takesTest_75 ?_
        refine lv_iadd hC.x hC.b dX12_takesTest_76 ?_
        refine lv_aload_n hC.x hC.b dX12_takesTest_77 rfl (lv_at hl 2 rfl) ?_
        refine r_geti hC hH fl_X12_57_12 (hL _ mM0) sM0 rfl dX12_takesTest_78 ?_
        refine lv_iadd hC.x hC.b dX12_takesTest_81 ?_
        obtain ⟨m9, hf9, h⟩ := bd_e h
        refine c_V0 (As := [.int ((((1000 : Int32) * x2) + ((100 : Int32) * (x4 - (60 : Int32)))) + (gI m7 0 15))]) (rest := []) (o := 0) (q := (RX12, TX12, 74)) hC hX hE.2.1 hF hH (c_X12_emits (l := l) hk hL hE hf9) kw677 kw678 kw679 kw5 kw680 a_X12_emits.1 a_X12_emits.2 (hL _ mM0) sM0 rfl rfl hl.1 (rmk hR (by decide) (by decide)) (Nat.le_of_ble_eq_true rfl) dX12_takesTest_82 (fun H locs hH => ?_)
        refine lv_aload_n hC.x hC.b dX12_takesTest_85 rfl (lv_at hl 2 rfl) ?_
        obtain ⟨m10, hf10, h⟩ := bd_e h
        refine c_V0 (As := []) (rest := []) (o := 0) (q := (RX12, TX12, 74)) hC hX hE.2.1 hF hH (c_X12_whole (l := l) hk hL hE hf10) kw681 kw682 kw683 kw5 kw684 a_X12_whole.1 a_X12_whole.2 (hL _ mM0) sM0 rfl rfl hl.1 (rmk hR (by decide) (by decide)) (Nat.le_of_ble_eq_true rfl) dX12_takesTest_86 (fun H locs hH => ?_)
        refine lv_iconst (v := 1) hC.x hC.b dX12_takesTest_89 rfl ?_
        rw [hQ]
        exact e_n hC hr rfl hH h dX12_takesTest_90
      · refine lv_iconst (v := 0) hC.x hC.b dX12_takesTest_61 rfl ?_
        rw [hQ]
        exact e_n hC hr rfl hH h dX12_takesTest_62
    · refine lv_iconst (v := 0) hC.x hC.b dX12_takesTest_42 rfl ?_
      rw [hQ]
      exact e_n hC hr rfl hH h dX12_takesTest_43
  · refine lv_iconst (v := 0) hC.x hC.b dX12_takesTest_13 rfl ?_
    rw [hQ]
    exact e_n hC hr rfl hH h dX12_takesTest_14
theorem a_X12_takesWord : noMH yX12_takesWord.cls ∧ arity yX12_takesWord.desc 2 := by decide +kernel
def f_X12_takesHead (mem : gMem) (p0 : Int32) : Option (Int32 × gMem) := bd (f_X12_next mem) fun (x1 : Int32) => if x1 = 99 then (if okI p0 60 then lt1 (gsI mem 8 (ix p0) (1 : Int32)) fun (m2 : gMem) => bd2 (f_X12_takesWord m2 (4 : Int32) (5 : Int32)) fun (x4 : Int32) (m3 : gMem) => if isB x4 then some (x4, m3) else none else none) else if x1 = 100 then (if okI p0 60 then lt1 (gsI mem 8 (ix p0) (0 : Int32)) fun (m5 : gMem) => bd2 (f_X12_takesWord m5 (0 : Int32) (4 : Int32)) fun (x7 : Int32) (m6 : gMem) => if isB x7 then some (x7, m6) else none else none) else if okI p0 60 then lt1 (gsI mem 8 (ix p0) (2 : Int32)) fun (m8 : gMem) => bd2 (f_X12_takesWord m8 (9 : Int32) (4 : Int32)) fun (x10 : Int32) (m9 : gMem) => if isB x10 then some (x10, m9) else none else none
set_option maxRecDepth 100000 in
set_option maxHeartbeats 4000000 in
theorem c_X12_takesHead {l : Launch} {E : State → Prop} {D : va_G} {cy : Nat → ClassId} {ad : Nat → Nat} {L : List Nat} {mem : gMem} {p0 : Int32} {rv : Int32} {memz : gMem} (hk : gOk ad L) (hL : ∀ o ∈ LM0, o ∈ L) (hE : gEok ad L E)  (h : f_X12_takesHead mem p0 = some (rv, memz)) : gMet l yX12_takesHead cX12_takesHead 2 (some .boolean) 3 64 E D cy shM ad L [.ref (ad 0), .int p0] mem memz (some (.int rv)) := by
  refine g_go (own := RX12) (by decide +kernel) rfl hE (Nat.le_of_ble_eq_true rfl) ?_
  intro p e s m args below meth c R Q hargs hR hQ hEs hC hr hX H locs ls hH hl
  have hF := gF_of hk
  have hl : lv_has ls 2 [(0, .ref (ad 0)), (1, .int p0)] := hl
  refine lv_aload_n hC.x hC.b dX12_takesHead_0 rfl (lv_at hl 0 rfl) ?_
  obtain ⟨x1, hf1, h⟩ := bd_e h
  refine c_V1 (As := []) (rest := []) (o := 0) (q := (RX12, TX12, 74)) hC hX hE.2.1 hF hH (c_X12_next (l := l) hk hL hE hf1) kw645 kw646 kw647 kw5 kw648 a_X12_next.1 a_X12_next.2 (hL _ mM0) sM0 rfl rfl hl.1 (rmk hR (by decide) (by decide)) (Nat.le_of_ble_eq_true rfl) dX12_takesHead_1 (fun H locs hH => ?_)
  by_cases hx0 : x1 = 99
  · have h := ifp hx0 h
    refine lv_lookup (off := 42) (tgt := 46) hC.x hC.b dX12_takesHead_4 (by decide) (by rw [hx0]; rfl) (by decide) ?_
    refine lv_aload_n hC.x hC.b dX12_takesHead_46 rfl (lv_at hl 0 rfl) ?_
    refine r_getc (z := 8) hC hH fl_X12_66_12 (hL _ mM0) sM0 rfl dX12_takesHead_47 ?_
    refine lv_iload_n hC.x hC.b dX12_takesHead_50 rfl (lv_at hl 1 rfl) ?_
    refine lv_iconst (v := 1) hC.x hC.b dX12_takesHead_51 rfl ?_
    refine r_iast hC hF hH (hL _ mM8) sM8 h dX12_takesHead_52 (fun m2 H locs h hH => ?_)
    refine lv_aload_n hC.x hC.b dX12_takesHead_53 rfl (lv_at hl 0 rfl) ?_
    refine lv_iconst (v := 4) hC.x hC.b dX12_takesHead_54 rfl ?_
    refine lv_iconst (v := 5) hC.x hC.b dX12_takesHead_55 rfl ?_
    obtain ⟨x4, m3, hf4, h⟩ := bd2_e h
    refine c_V1 (As := [.int (4 : Int32), .int (5 : Int32)]) (rest := []) (o := 0) (q := (RX12, TX12, 74)) hC hX hE.2.1 hF hH (c_X12_takesWord (l := l) hk hL hE hf4) kw649 kw650 kw651 kw5 kw652 a_X12_takesWord.1 a_X12_takesWord.2 (hL _ mM0) sM0 rfl rfl hl.1 (rmk hR (by decide) (by decide)) (Nat.le_of_ble_eq_true rfl) dX12_takesHead_56 (fun H locs hH => ?_)
    rw [hQ]
    exact e_z hC hr hH h dX12_takesHead_59
  have h := ifn hx0 h
  by_cases hx1 : x1 = 100
  · have h := ifp hx1 h
    refine lv_lookup (off := 28) (tgt := 32) hC.x hC.b dX12_takesHead_4 (by decide) (by rw [hx1]; rfl) (by decide) ?_
    refine lv_aload_n hC.x hC.b dX12_takesHead_32 rfl (lv_at hl 0 rfl) ?_
    refine r_getc (z := 8) hC hH fl_X12_66_12 (hL _ mM0) sM0 rfl dX12_takesHead_33 ?_
    refine lv_iload_n hC.x hC.b dX12_takesHead_36 rfl (lv_at hl 1 rfl) ?_
    refine lv_iconst (v := 0) hC.x hC.b dX12_takesHead_37 rfl ?_
    refine r_iast hC hF hH (hL _ mM8) sM8 h dX12_takesHead_38 (fun m5 H locs h hH => ?_)
    refine lv_aload_n hC.x hC.b dX12_takesHead_39 rfl (lv_at hl 0 rfl) ?_
    refine lv_iconst (v := 0) hC.x hC.b dX12_takesHead_40 rfl ?_
    refine lv_iconst (v := 4) hC.x hC.b dX12_takesHead_41 rfl ?_
    obtain ⟨x7, m6, hf7, h⟩ := bd2_e h
    refine c_V1 (As := [.int (0 : Int32), .int (4 : Int32)]) (rest := []) (o := 0) (q := (RX12, TX12, 74)) hC hX hE.2.1 hF hH (c_X12_takesWord (l := l) hk hL hE hf7) kw649 kw650 kw651 kw5 kw652 a_X12_takesWord.1 a_X12_takesWord.2 (hL _ mM0) sM0 rfl rfl hl.1 (rmk hR (by decide) (by decide)) (Nat.le_of_ble_eq_true rfl) dX12_takesHead_42 (fun H locs hH => ?_)
    rw [hQ]
    exact e_z hC hr hH h dX12_takesHead_45
  have h := ifn hx1 h
  refine lv_lookup (off := 56) (tgt := 60) hC.x hC.b dX12_takesHead_4 (by decide) (by have a0 := ne_ti (v := 99) (z := 99) rfl hx0; have a1 := ne_ti (v := 100) (z := 100) rfl hx1; simp [Op.lookupswitch.offset, Ne.symm a0, a0, Ne.symm a1, a1]) (by decide) ?_
  refine lv_aload_n hC.x hC.b dX12_takesHead_60 rfl (lv_at hl 0 rfl) ?_
  refine r_getc (z := 8) hC hH fl_X12_66_12 (hL _ mM0) sM0 rfl dX12_takesHead_61 ?_
  refine lv_iload_n hC.x hC.b dX12_takesHead_64 rfl (lv_at hl 1 rfl) ?_
  refine lv_iconst (v := 2) hC.x hC.b dX12_takesHead_65 rfl ?_
  refine r_iast hC hF hH (hL _ mM8) sM8 h dX12_takesHead_66 (fun m8 H locs h hH => ?_)
  refine lv_aload_n hC.x hC.b dX12_takesHead_67 rfl (lv_at hl 0 rfl) ?_
  refine lv_bipush (v := 9) hC.x hC.b dX12_takesHead_68 rfl ?_
  refine lv_iconst (v := 4) hC.x hC.b dX12_takesHead_70 rfl ?_
  obtain ⟨x10, m9, hf10, h⟩ := bd2_e h
  refine c_V1 (As := [.int (9 : Int32), .int (4 : Int32)]) (rest := []) (o := 0) (q := (RX12, TX12, 74)) hC hX hE.2.1 hF hH (c_X12_takesWord (l := l) hk hL hE hf10) kw649 kw650 kw651 kw5 kw652 a_X12_takesWord.1 a_X12_takesWord.2 (hL _ mM0) sM0 rfl rfl hl.1 (rmk hR (by decide) (by decide)) (Nat.le_of_ble_eq_true rfl) dX12_takesHead_71 (fun H locs hH => ?_)
  rw [hQ]
  exact e_z hC hr hH h dX12_takesHead_74
theorem fl_X12_100_12 : gFl RX12 100 12 29 := ⟨RX12, TX12, 74, "OnTiptoeModel", rfl, inW12, by decide, kw106, Or.inl rfl⟩
theorem a_X12_hasDeep : noMH yX12_hasDeep.cls ∧ arity yX12_hasDeep.desc 0 := by decide +kernel
theorem a_X12_sumOf : noMH yX12_sumOf.cls ∧ arity yX12_sumOf.desc 4 := by decide +kernel
def f_X12_depthAt (mem : gMem) (p0 : Int32) : Option (Int32 × gMem) := bd (f_X12_hasDeep mem) fun (x1 : Int32) => if x1 = 0 then (some (((gI mem 0 29) + (8 : Int32)), mem)) else bd2 (f_X12_sumOf mem (0 : Int32) p0 (-1 : Int32) (0 : Int32)) fun (x3 : Int32) (m2 : gMem) => some (((gI mem 0 29) + x3), m2)
set_option maxRecDepth 100000 in
set_option maxHeartbeats 4000000 in
theorem c_X12_depthAt {l : Launch} {E : State → Prop} {D : va_G} {cy : Nat → ClassId} {ad : Nat → Nat} {L : List Nat} {mem : gMem} {p0 : Int32} {rv : Int32} {memz : gMem} (hk : gOk ad L) (hL : ∀ o ∈ LM0, o ∈ L) (hE : gEok ad L E)  (h : f_X12_depthAt mem p0 = some (rv, memz)) : gMet l yX12_depthAt cX12_depthAt 2 (some .int) 3 79 E D cy shM ad L [.ref (ad 0), .int p0] mem memz (some (.int rv)) := by
  refine g_go (own := RX12) (by decide +kernel) rfl hE (Nat.le_of_ble_eq_true rfl) ?_
  intro p e s m args below meth c R Q hargs hR hQ hEs hC hr hX H locs ls hH hl
  have hF := gF_of hk
  have hl : lv_has ls 2 [(0, .ref (ad 0)), (1, .int p0)] := hl
  refine lv_aload_n hC.x hC.b dX12_depthAt_0 rfl (lv_at hl 0 rfl) ?_
  refine r_geti hC hH fl_X12_100_12 (hL _ mM0) sM0 rfl dX12_depthAt_1 ?_
  refine lv_aload_n hC.x hC.b dX12_depthAt_4 rfl (lv_at hl 0 rfl) ?_
  obtain ⟨x1, hf1, h⟩ := bd_e h
  refine c_V1 (As := []) (rest := [.int (gI mem 0 29)]) (o := 0) (q := (RX12, TX12, 74)) hC hX hE.2.1 hF hH (c_X12_hasDeep (l := l) hk hL hE hf1) kw711 kw712 kw713 kw5 kw714 a_X12_hasDeep.1 a_X12_hasDeep.2 (hL _ mM0) sM0 rfl rfl hl.1 (rmk hR (by decide) (by decide)) (Nat.le_of_ble_eq_true rfl) dX12_depthAt_5 (fun H locs hH => ?_)
  refine b_if_eq (tgt := 22) hC dX12_depthAt_8 (by decide) h (fun h => ?_) (fun h => ?_)
  · refine lv_bipush (v := 8) hC.x hC.b dX12_depthAt_22 rfl ?_
    refine lv_iadd hC.x hC.b dX12_depthAt_24 ?_
    rw [hQ]
    exact e_i hC hr hH h dX12_depthAt_25
  · refine lv_aload_n hC.x hC.b dX12_depthAt_11 rfl (lv_at hl 0 rfl) ?_
    refine lv_iconst (v := 0) hC.x hC.b dX12_depthAt_12 rfl ?_
    refine lv_iload_n hC.x hC.b dX12_depthAt_13 rfl (lv_at hl 1 rfl) ?_
    refine lv_iconst (v := -1) hC.x hC.b dX12_depthAt_14 rfl ?_
    refine lv_iconst (v := 0) hC.x hC.b dX12_depthAt_15 rfl ?_
    obtain ⟨x3, m2, hf3, h⟩ := bd2_e h
    refine c_V1 (As := [.int (0 : Int32), .int p0, .int (-1 : Int32), .int (0 : Int32)]) (rest := [.int (gI mem 0 29)]) (o := 0) (q := (RX12, TX12, 74)) hC hX hE.2.1 hF hH (c_X12_sumOf (l := l) hk hL hE hf3) kw392 kw393 kw394 kw5 kw395 a_X12_sumOf.1 a_X12_sumOf.2 (hL _ mM0) sM0 rfl rfl hl.1 (rmk hR (by decide) (by decide)) (Nat.le_of_ble_eq_true rfl) dX12_depthAt_16 (fun H locs hH => ?_)
    refine lv_goto (tgt := 24) hC.x hC.b dX12_depthAt_19 (by decide) ?_
    refine lv_iadd hC.x hC.b dX12_depthAt_24 ?_
    rw [hQ]
    exact e_i hC hr hH h dX12_depthAt_25
theorem a_X12_has : noMH yX12_has.cls ∧ arity yX12_has.desc 2 := by decide +kernel
def f_X12_loud (mem : gMem) (p0 : Int32) (p1 : Int32) (p2 : Int32) : Option (Int32 × gMem) := if okI p1 12 then bd (f_X12_has (gI mem 0 3) p1) fun (x1 : Int32) => jn ((fun (x3 : Int32) => bd2 (f_X12_sumOf mem (1 : Int32) p2 p1 p0) fun (x5 : Int32) (m4 : gMem) => bd2 (f_X12_sumOf m4 (2 : Int32) p2 p1 p0) fun (x7 : Int32) (m6 : gMem) => lt1 ((((gI mem 1 (ix p1)) + x3) + x5) - x7) fun (x8 : Int32) => if 0 ≤ x8 then (some (x8, m6)) else some ((0 : Int32), m6)) : Int32 → Option (Int32 × gMem)) fun j2 => if x1 = 0 then ((j2 (0 : Int32))) else (j2 (9 : Int32)) else none
set_option maxRecDepth 100000 in
set_option maxHeartbeats 4000000 in
theorem c_X12_loud {l : Launch} {E : State → Prop} {D : va_G} {cy : Nat → ClassId} {ad : Nat → Nat} {L : List Nat} {mem : gMem} {p0 : Int32} {p1 : Int32} {p2 : Int32} {rv : Int32} {memz : gMem} (hk : gOk ad L) (hL : ∀ o ∈ LM0, o ∈ L) (hE : gEok ad L E)  (h : f_X12_loud mem p0 p1 p2 = some (rv, memz)) : gMet l yX12_loud cX12_loud 5 (some .int) 3 79 E D cy shM ad L [.ref (ad 0), .int p0, .int p1, .int p2] mem memz (some (.int rv)) := by
  refine g_go (own := RX12) (by decide +kernel) rfl hE (Nat.le_of_ble_eq_true rfl) ?_
  intro p e s m args below meth c R Q hargs hR hQ hEs hC hr hX H locs ls hH hl
  have hF := gF_of hk
  have hl : lv_has ls 5 [(0, .ref (ad 0)), (1, .int p0), (2, .int p1), (3, .int p2)] := hl
  refine lv_aload_n hC.x hC.b dX12_loud_0 rfl (lv_at hl 0 rfl) ?_
  refine r_getc (z := 1) hC hH fl_X12_29_12 (hL _ mM0) sM0 rfl dX12_loud_1 ?_
  refine lv_iload_n hC.x hC.b dX12_loud_4 rfl (lv_at hl 2 rfl) ?_
  refine r_iald hC hH (hL _ mM1) sM1 h dX12_loud_5 (fun h => ?_)
  refine lv_aload_n hC.x hC.b dX12_loud_6 rfl (lv_at hl 0 rfl) ?_
  refine lv_aload_n hC.x hC.b dX12_loud_7 rfl (lv_at hl 0 rfl) ?_
  refine r_geti hC hH fl_X12_19_12 (hL _ mM0) sM0 rfl dX12_loud_8 ?_
  refine lv_iload_n hC.x hC.b dX12_loud_11 rfl (lv_at hl 2 rfl) ?_
  obtain ⟨x1, hf1, h⟩ := bd_e h
  refine c_V1 (As := [.int (gI mem 0 3), .int p1]) (rest := [.int (gI mem 1 (ix p1))]) (o := 0) (q := (RX12, TX12, 74)) hC hX hE.2.1 hF hH (c_X12_has (l := l) hk hL hE hf1) kw388 kw389 kw390 kw5 kw391 a_X12_has.1 a_X12_has.2 (hL _ mM0) sM0 rfl rfl hl.1 (rmk hR (by decide) (by decide)) (Nat.le_of_ble_eq_true rfl) dX12_loud_12 (fun H locs hH => ?_)
  obtain ⟨j2, ej2, h⟩ := jn_e h
  have hj2 : ∀ (x3 : Int32) (H : Heap) (locs : List Loc) (ls : Array Slot), (j2 x3) = some (rv, memz) → gH D cy shM ad L (gA ad L) s.heap mem H locs → lv_has ls 5 [(0, .ref (ad 0)), (1, .int p0), (2, .int p1), (3, .int p2)] → W p l e R s m args below meth c H locs 0 0 Q (F0 m 24 ls [.int x3, .int (gI mem 1 (ix p1))]) := by
    intro x3 H locs ls h hH hl
    have h := ap1 ej2 h
    refine lv_iadd hC.x hC.b dX12_loud_24 ?_
    refine lv_aload_n hC.x hC.b dX12_loud_25 rfl (lv_at hl 0 rfl) ?_
    refine lv_iconst (v := 1) hC.x hC.b dX12_loud_26 rfl ?_
    refine lv_iload_n hC.x hC.b dX12_loud_27 rfl (lv_at hl 3 rfl) ?_
    refine lv_iload_n hC.x hC.b dX12_loud_28 rfl (lv_at hl 2 rfl) ?_
    refine lv_iload_n hC.x hC.b dX12_loud_29 rfl (lv_at hl 1 rfl) ?_
    obtain ⟨x5, m4, hf5, h⟩ := bd2_e h
    refine c_V1 (As := [.int (1 : Int32), .int p2, .int p1, .int p0]) (rest := [.int ((gI mem 1 (ix p1)) + x3)]) (o := 0) (q := (RX12, TX12, 74)) hC hX hE.2.1 hF hH (c_X12_sumOf (l := l) hk hL hE hf5) kw392 kw393 kw394 kw5 kw395 a_X12_sumOf.1 a_X12_sumOf.2 (hL _ mM0) sM0 rfl rfl hl.1 (rmk hR (by decide) (by decide)) (Nat.le_of_ble_eq_true rfl) dX12_loud_30 (fun H locs hH => ?_)
    refine lv_iadd hC.x hC.b dX12_loud_33 ?_
    refine lv_aload_n hC.x hC.b dX12_loud_34 rfl (lv_at hl 0 rfl) ?_
    refine lv_iconst (v := 2) hC.x hC.b dX12_loud_35 rfl ?_
    refine lv_iload_n hC.x hC.b dX12_loud_36 rfl (lv_at hl 3 rfl) ?_
    refine lv_iload_n hC.x hC.b dX12_loud_37 rfl (lv_at hl 2 rfl) ?_
    refine lv_iload_n hC.x hC.b dX12_loud_38 rfl (lv_at hl 1 rfl) ?_
    obtain ⟨x7, m6, hf7, h⟩ := bd2_e h
    refine c_V1 (As := [.int (2 : Int32), .int p2, .int p1, .int p0]) (rest := [.int (((gI mem 1 (ix p1)) + x3) + x5)]) (o := 0) (q := (RX12, TX12, 74)) hC hX hE.2.1 hF hH (c_X12_sumOf (l := l) hk hL hE hf7) kw392 kw393 kw394 kw5 kw395 a_X12_sumOf.1 a_X12_sumOf.2 (hL _ mM0) sM0 rfl rfl hl.1 (rmk hR (by decide) (by decide)) (Nat.le_of_ble_eq_true rfl) dX12_loud_39 (fun H locs hH => ?_)
    refine lv_isub hC.x hC.b dX12_loud_42 ?_
    refine n_i h (fun x8 h => ?_)
    refine lv_istore (lv' := [(4, .int x8), (0, .ref (ad 0)), (1, .int p0), (2, .int p1), (3, .int p2)]) hC.x hC.b dX12_loud_43 hl (by decide) rfl (fun ls hl => ?_)
    refine lv_iload hC.x hC.b dX12_loud_45 (lv_at hl 0 rfl) ?_
    refine b_if_ge (tgt := 54) hC dX12_loud_47 (by decide) h (fun h => ?_) (fun h => ?_)
    · refine lv_iload hC.x hC.b dX12_loud_54 (lv_at hl 0 rfl) ?_
      rw [hQ]
      exact e_i hC hr hH h dX12_loud_56
    · refine lv_iconst (v := 0) hC.x hC.b dX12_loud_50 rfl ?_
      refine lv_goto (tgt := 56) hC.x hC.b dX12_loud_51 (by decide) ?_
      rw [hQ]
      exact e_i hC hr hH h dX12_loud_56
  clear ej2
  refine b_if_eq (tgt := 23) hC dX12_loud_15 (by decide) h (fun h => ?_) (fun h => ?_)
  · refine lv_iconst (v := 0) hC.x hC.b dX12_loud_23 rfl ?_
    exact hj2 (0 : Int32) H locs ls h hH (lv_sub hl [0, 1, 2, 3] rfl)
  · refine lv_bipush (v := 9) hC.x hC.b dX12_loud_18 rfl ?_
    refine lv_goto (tgt := 24) hC.x hC.b dX12_loud_20 (by decide) ?_
    exact hj2 (9 : Int32) H locs ls h hH (lv_sub hl [0, 1, 2, 3] rfl)
theorem a_X12_treadsAct : noMH yX12_treadsAct.cls ∧ arity yX12_treadsAct.desc 2 := by decide +kernel
def f_X12_walkerGoes (mem : gMem) (p0 : Int32) (p1 : Int32) : Option (Int32 × gMem) := bd (f_X12_body mem (11 : Int32)) fun (m1 : gMem) => bd2 (f_X12_treadsAct m1 p0 p1) fun (x3 : Int32) (m2 : gMem) => if okI p0 4 then some ((x3 - (gI m2 3 (ix p0))), m2) else none
set_option maxRecDepth 100000 in
set_option maxHeartbeats 4000000 in
theorem c_X12_walkerGoes {l : Launch} {E : State → Prop} {D : va_G} {cy : Nat → ClassId} {ad : Nat → Nat} {L : List Nat} {mem : gMem} {p0 : Int32} {p1 : Int32} {rv : Int32} {memz : gMem} (hk : gOk ad L) (hL : ∀ o ∈ LM0, o ∈ L) (hE : gEok ad L E)  (h : f_X12_walkerGoes mem p0 p1 = some (rv, memz)) : gMet l yX12_walkerGoes cX12_walkerGoes 3 (some .int) 3 65 E D cy shM ad L [.ref (ad 0), .int p0, .int p1] mem memz (some (.int rv)) := by
  refine g_go (own := RX12) (by decide +kernel) rfl hE (Nat.le_of_ble_eq_true rfl) ?_
  intro p e s m args below meth c R Q hargs hR hQ hEs hC hr hX H locs ls hH hl
  have hF := gF_of hk
  have hl : lv_has ls 3 [(0, .ref (ad 0)), (1, .int p0), (2, .int p1)] := hl
  refine lv_aload_n hC.x hC.b dX12_walkerGoes_0 rfl (lv_at hl 0 rfl) ?_
  refine lv_bipush (v := 11) hC.x hC.b dX12_walkerGoes_1 rfl ?_
  obtain ⟨m1, hf1, h⟩ := bd_e h
  refine c_V0 (As := [.int (11 : Int32)]) (rest := []) (o := 0) (q := (RX12, TX12, 74)) hC hX hE.2.1 hF hH (c_X12_body (l := l) hk hL hE hf1) kw1242 kw1243 kw1244 kw5 kw1245 a_X12_body.1 a_X12_body.2 (hL _ mM0) sM0 rfl rfl hl.1 (rmk hR (by decide) (by decide)) (Nat.le_of_ble_eq_true rfl) dX12_walkerGoes_3 (fun H locs hH => ?_)
  refine lv_aload_n hC.x hC.b dX12_walkerGoes_6 rfl (lv_at hl 0 rfl) ?_
  refine lv_iload_n hC.x hC.b dX12_walkerGoes_7 rfl (lv_at hl 1 rfl) ?_
  refine lv_iload_n hC.x hC.b dX12_walkerGoes_8 rfl (lv_at hl 2 rfl) ?_
  obtain ⟨x3, m2, hf3, h⟩ := bd2_e h
  refine c_V1 (As := [.int p0, .int p1]) (rest := []) (o := 0) (q := (RX12, TX12, 74)) hC hX hE.2.1 hF hH (c_X12_treadsAct (l := l) hk hL hE hf3) kw1238 kw1239 kw1240 kw5 kw1241 a_X12_treadsAct.1 a_X12_treadsAct.2 (hL _ mM0) sM0 rfl rfl hl.1 (rmk hR (by decide) (by decide)) (Nat.le_of_ble_eq_true rfl) dX12_walkerGoes_9 (fun H locs hH => ?_)
  refine lv_aload_n hC.x hC.b dX12_walkerGoes_12 rfl (lv_at hl 0 rfl) ?_
  refine r_getc (z := 3) hC hH fl_X12_36_12 (hL _ mM0) sM0 rfl dX12_walkerGoes_13 ?_
  refine lv_iload_n hC.x hC.b dX12_walkerGoes_16 rfl (lv_at hl 1 rfl) ?_
  refine r_iald hC hH (hL _ mM3) sM3 h dX12_walkerGoes_17 (fun h => ?_)
  refine lv_isub hC.x hC.b dX12_walkerGoes_18 ?_
  rw [hQ]
  exact e_i hC hr hH h dX12_walkerGoes_19
theorem a_X12_settle : noMH yX12_settle.cls ∧ arity yX12_settle.desc 1 := by decide +kernel
theorem a_X12_takesTest : noMH yX12_takesTest.cls ∧ arity yX12_takesTest.desc 0 := by decide +kernel
def s_X12_takesE_22 (p0 : Int32) (self4 : Int32 → gMem → Option (Int32 × gMem)) (x5 : Int32) (m6 : gMem) : Option (Int32 × gMem) := bd (f_X12_next m6) fun (x7 : Int32) => if x5 = 0 then (jn ((bd (f_X12_settle m6 x7) fun (m15 : gMem) => if okI (gI m15 0 25) 101 then lt1 (gsI m15 13 (ix (gI m15 0 25)) x7) fun (m16 : gMem) => lt1 (gsI m16 0 25 ((gI m16 0 25) + (1 : Int32))) fun (m17 : gMem) => lt1 (gsI m17 0 14 ((gI m17 0 14) + (1 : Int32))) fun (m18 : gMem) => (self4 (1 : Int32) m18) else none) : Option (Int32 × gMem)) fun j8 => if x7 = (38 : Int32) then (j8) else if x7 = (124 : Int32) then (j8) else bd (f_X12_settle m6 (124 : Int32)) fun (m9 : gMem) => if okI p0 60 then lt1 (gsI m9 11 (ix p0) (gI m9 0 24)) fun (m10 : gMem) => if (gI m10 0 25) = 0 then (some ((1 : Int32), m10)) else if x7 = (41 : Int32) then (lt1 (gsI m10 0 25 ((gI m10 0 25) - (1 : Int32))) fun (m11 : gMem) => lt1 (gsI m11 0 26 ((gI m11 0 26) - (1 : Int32))) fun (m12 : gMem) => lt1 (gsI m12 0 14 ((gI m12 0 14) + (1 : Int32))) fun (m13 : gMem) => bd (f_X12_whole m13) fun (m14 : gMem) => (self4 x5 m14)) else some ((0 : Int32), m10) else none) else jn ((if (gI m6 0 26) = (4 : Int32) then (some ((0 : Int32), m6)) else lt1 (gsI m6 0 26 ((gI m6 0 26) + (1 : Int32))) fun (m22 : gMem) => if okI (gI m22 0 25) 101 then lt1 (gsI m22 13 (ix (gI m22 0 25)) x7) fun (m23 : gMem) => lt1 (gsI m23 0 25 ((gI m23 0 25) + (1 : Int32))) fun (m24 : gMem) => lt1 (gsI m24 0 14 ((gI m24 0 14) + (1 : Int32))) fun (m25 : gMem) => (self4 x5 m25) else none) : Option (Int32 × gMem)) fun j19 => if x7 = (33 : Int32) then (j19) else if x7 = (40 : Int32) then (j19) else bd2 (f_X12_takesTest m6) fun (x21 : Int32) (m20 : gMem) => if x21 = 0 then (some ((0 : Int32), m20)) else (self4 (0 : Int32) m20)
def f_X12_takesE (mem : gMem) (p0 : Int32) : Option (Int32 × gMem) := lt1 (gsI mem 0 25 (0 : Int32)) fun (m1 : gMem) => lt1 (gsI m1 0 26 (0 : Int32)) fun (m2 : gMem) => if okI p0 60 then lt1 (gsI m2 10 (ix p0) (gI m2 0 24)) fun (m3 : gMem) => lq2 (s_X12_takesE_22 p0) 1000 (1 : Int32) m3 else none
set_option maxRecDepth 100000 in
set_option maxHeartbeats 4000000 in
theorem c_X12_takesE {l : Launch} {E : State → Prop} {D : va_G} {cy : Nat → ClassId} {ad : Nat → Nat} {L : List Nat} {mem : gMem} {p0 : Int32} {rv : Int32} {memz : gMem} (hk : gOk ad L) (hL : ∀ o ∈ LM0, o ∈ L) (hE : gEok ad L E)  (h : f_X12_takesE mem p0 = some (rv, memz)) : gMet l yX12_takesE cX12_takesE 4 (some .boolean) 4 86 E D cy shM ad L [.ref (ad 0), .int p0] mem memz (some (.int rv)) := by
  refine g_go (own := RX12) (by decide +kernel) rfl hE (Nat.le_of_ble_eq_true rfl) ?_
  intro p e s m args below meth c R Q hargs hR hQ hEs hC hr hX H locs ls hH hl
  have hF := gF_of hk
  have hl : lv_has ls 4 [(0, .ref (ad 0)), (1, .int p0)] := hl
  refine lv_aload_n hC.x hC.b dX12_takesE_0 rfl (lv_at hl 0 rfl) ?_
  refine lv_iconst (v := 0) hC.x hC.b dX12_takesE_1 rfl ?_
  refine r_puti hC hF hH pl_X12_87_12 (hL _ mM0) sM0 rfl h dX12_takesE_2 (fun m1 H locs h hH => ?_)
  refine lv_aload_n hC.x hC.b dX12_takesE_5 rfl (lv_at hl 0 rfl) ?_
  refine lv_iconst (v := 0) hC.x hC.b dX12_takesE_6 rfl ?_
  refine r_puti hC hF hH pl_X12_90_12 (hL _ mM0) sM0 rfl h dX12_takesE_7 (fun m2 H locs h hH => ?_)
  refine lv_aload_n hC.x hC.b dX12_takesE_10 rfl (lv_at hl 0 rfl) ?_
  refine r_getc (z := 10) hC hH fl_X12_72_12 (hL _ mM0) sM0 rfl dX12_takesE_11 ?_
  refine lv_iload_n hC.x hC.b dX12_takesE_14 rfl (lv_at hl 1 rfl) ?_
  refine lv_aload_n hC.x hC.b dX12_takesE_15 rfl (lv_at hl 0 rfl) ?_
  refine r_geti hC hH fl_X12_84_12 (hL _ mM0) sM0 rfl dX12_takesE_16 ?_
  refine r_iast hC hF hH (hL _ mM10) sM10 h dX12_takesE_19 (fun m3 H locs h hH => ?_)
  refine lv_iconst (v := 1) hC.x hC.b dX12_takesE_20 rfl ?_
  refine lv_istore_n (lv' := [(2, .int (1 : Int32)), (0, .ref (ad 0)), (1, .int p0)]) hC.x hC.b dX12_takesE_21 rfl hl (by decide) rfl (fun ls hl => ?_)
  have hl4 : ∀ (n : Nat) (x5 : Int32) (m6 : gMem) (H : Heap) (locs : List Loc) (ls : Array Slot), lq2 (s_X12_takesE_22 p0) n x5 m6 = some (rv, memz) → gH D cy shM ad L (gA ad L) s.heap m6 H locs → lv_has ls 4 [(0, .ref (ad 0)), (1, .int p0), (2, .int x5)] → W p l e R s m args below meth c H locs 0 0 Q (F0 m 22 ls []) := by
    intro n
    induction n with
    | zero => intro x5 m6 H locs ls h _ _; exact lq2_0 h
    | succ n ih4 =>
      intro x5 m6 H locs ls h hH hl
      obtain ⟨self4, es4, h⟩ := lq2_s h
      refine lv_aload_n hC.x hC.b dX12_takesE_22 rfl (lv_at hl 0 rfl) ?_
      obtain ⟨x7, hf7, h⟩ := bd_e h
      refine c_V1 (As := []) (rest := []) (o := 0) (q := (RX12, TX12, 74)) hC hX hE.2.1 hF hH (c_X12_next (l := l) hk hL hE hf7) kw645 kw646 kw647 kw5 kw648 a_X12_next.1 a_X12_next.2 (hL _ mM0) sM0 rfl rfl hl.1 (rmk hR (by decide) (by decide)) (Nat.le_of_ble_eq_true rfl) dX12_takesE_23 (fun H locs hH => ?_)
      refine lv_istore_n (lv' := [(3, .int x7), (0, .ref (ad 0)), (1, .int p0), (2, .int x5)]) hC.x hC.b dX12_takesE_26 rfl hl (by decide) rfl (fun ls hl => ?_)
      refine lv_iload_n hC.x hC.b dX12_takesE_27 rfl (lv_at hl 3 rfl) ?_
      refine b_if_eq (tgt := 110) hC dX12_takesE_28 (by decide) h (fun h => ?_) (fun h => ?_)
      · refine lv_iload_n hC.x hC.b dX12_takesE_110 rfl (lv_at hl 0 rfl) ?_
        refine lv_bipush (v := 38) hC.x hC.b dX12_takesE_111 rfl ?_
        obtain ⟨j8, ej8, h⟩ := jn_e h
        have hj8 : ∀  (H : Heap) (locs : List Loc) (ls : Array Slot), j8 = some (rv, memz) → gH D cy shM ad L (gA ad L) s.heap m6 H locs → lv_has ls 4 [(0, .ref (ad 0)), (1, .int p0), (3, .int x7)] → W p l e R s m args below meth c H locs 0 0 Q (F0 m 122 ls []) := by
          intro H locs ls h hH hl
          have h := ap0 ej8 h
          refine lv_aload_n hC.x hC.b dX12_takesE_122 rfl (lv_at hl 0 rfl) ?_
          refine lv_iload_n hC.x hC.b dX12_takesE_123 rfl (lv_at hl 2 rfl) ?_
          obtain ⟨m15, hf15, h⟩ := bd_e h
          refine c_V0 (As := [.int x7]) (rest := []) (o := 0) (q := (RX12, TX12, 74)) hC hX hE.2.1 hF hH (c_X12_settle (l := l) hk hL hE hf15) kw685 kw686 kw687 kw5 kw688 a_X12_settle.1 a_X12_settle.2 (hL _ mM0) sM0 rfl rfl hl.1 (rmk hR (by decide) (by decide)) (Nat.le_of_ble_eq_true rfl) dX12_takesE_124 (fun H locs hH => ?_)
          refine lv_aload_n hC.x hC.b dX12_takesE_127 rfl (lv_at hl 0 rfl) ?_
          refine r_getc (z := 13) hC hH fl_X12_81_12 (hL _ mM0) sM0 rfl dX12_takesE_128 ?_
          refine lv_aload_n hC.x hC.b dX12_takesE_131 rfl (lv_at hl 0 rfl) ?_
          refine r_geti hC hH fl_X12_87_12 (hL _ mM0) sM0 rfl dX12_takesE_132 ?_
          refine lv_iload_n hC.x hC.b dX12_takesE_135 rfl (lv_at hl 2 rfl) ?_
          refine r_iast hC hF hH (hL _ mM13) sM13 h dX12_takesE_136 (fun m16 H locs h hH => ?_)
          refine lv_aload_n hC.x hC.b dX12_takesE_137 rfl (lv_at hl 0 rfl) ?_
          refine lv_dup hC.x hC.b dX12_takesE_138 rfl ?_
          refine r_geti hC hH fl_X12_87_12 (hL _ mM0) sM0 rfl dX12_takesE_139 ?_
          refine lv_iconst (v := 1) hC.x hC.b dX12_takesE_142 rfl ?_
          refine lv_iadd hC.x hC.b dX12_takesE_143 ?_
          refine r_puti hC hF hH pl_X12_87_12 (hL _ mM0) sM0 rfl h dX12_takesE_144 (fun m17 H locs h hH => ?_)
          refine lv_iconst (v := 1) hC.x hC.b dX12_takesE_147 rfl ?_
          refine lv_istore_n (lv' := [(2, .int (1 : Int32)), (0, .ref (ad 0)), (1, .int p0), (3, .int x7)]) hC.x hC.b dX12_takesE_148 rfl hl (by decide) rfl (fun ls hl => ?_)
          refine lv_aload_n hC.x hC.b dX12_takesE_149 rfl (lv_at hl 1 rfl) ?_
          refine lv_dup hC.x hC.b dX12_takesE_150 rfl ?_
          refine r_geti hC hH fl_X12_54_12 (hL _ mM0) sM0 rfl dX12_takesE_151 ?_
          refine lv_iconst (v := 1) hC.x hC.b dX12_takesE_154 rfl ?_
          refine lv_iadd hC.x hC.b dX12_takesE_155 ?_
          refine r_puti hC hF hH pl_X12_54_12 (hL _ mM0) sM0 rfl h dX12_takesE_156 (fun m18 H locs h hH => ?_)
          refine lv_goto (tgt := 22) hC.x hC.b dX12_takesE_159 (by decide) ?_
          exact ih4 (1 : Int32) m18 H locs ls (ap2 es4 h) hH (lv_sub hl [1, 2, 0] rfl)
        clear ej8
        refine b_ic_eq (tgt := 122) hC dX12_takesE_113 (by decide) h (fun h => ?_) (fun h => ?_)
        · exact hj8  H locs ls h hH (lv_sub hl [1, 2, 0] rfl)
        · refine lv_iload_n hC.x hC.b dX12_takesE_116 rfl (lv_at hl 0 rfl) ?_
          refine lv_bipush (v := 124) hC.x hC.b dX12_takesE_117 rfl ?_
          refine b_ic_ne (tgt := 162) hC dX12_takesE_119 (by decide) h (fun h => ?_) (fun h => ?_)
          · refine lv_aload_n hC.x hC.b dX12_takesE_162 rfl (lv_at hl 1 rfl) ?_
            refine lv_bipush (v := 124) hC.x hC.b dX12_takesE_163 rfl ?_
            obtain ⟨m9, hf9, h⟩ := bd_e h
            refine c_V0 (As := [.int (124 : Int32)]) (rest := []) (o := 0) (q := (RX12, TX12, 74)) hC hX hE.2.1 hF hH (c_X12_settle (l := l) hk hL hE hf9) kw685 kw686 kw687 kw5 kw688 a_X12_settle.1 a_X12_settle.2 (hL _ mM0) sM0 rfl rfl hl.1 (rmk hR (by decide) (by decide)) (Nat.le_of_ble_eq_true rfl) dX12_takesE_165 (fun H locs hH => ?_)
            refine lv_aload_n hC.x hC.b dX12_takesE_168 rfl (lv_at hl 1 rfl) ?_
            refine r_getc (z := 11) hC hH fl_X12_75_12 (hL _ mM0) sM0 rfl dX12_takesE_169 ?_
            refine lv_iload_n hC.x hC.b dX12_takesE_172 rfl (lv_at hl 2 rfl) ?_
            refine lv_aload_n hC.x hC.b dX12_takesE_173 rfl (lv_at hl 1 rfl) ?_
            refine r_geti hC hH fl_X12_84_12 (hL _ mM0) sM0 rfl dX12_takesE_174 ?_
            refine r_iast hC hF hH (hL _ mM11) sM11 h dX12_takesE_177 (fun m10 H locs h hH => ?_)
            refine lv_aload_n hC.x hC.b dX12_takesE_178 rfl (lv_at hl 1 rfl) ?_
            refine r_geti hC hH fl_X12_87_12 (hL _ mM0) sM0 rfl dX12_takesE_179 ?_
            refine b_if_ne (tgt := 187) hC dX12_takesE_182 (by decide) h (fun h => ?_) (fun h => ?_)
            · refine lv_iload_n hC.x hC.b dX12_takesE_187 rfl (lv_at hl 0 rfl) ?_
              refine lv_bipush (v := 41) hC.x hC.b dX12_takesE_188 rfl ?_
              refine b_ic_eq (tgt := 195) hC dX12_takesE_190 (by decide) h (fun h => ?_) (fun h => ?_)
              · refine lv_aload_n hC.x hC.b dX12_takesE_195 rfl (lv_at hl 1 rfl) ?_
                refine lv_dup hC.x hC.b dX12_takesE_196 rfl ?_
                refine r_geti hC hH fl_X12_87_12 (hL _ mM0) sM0 rfl dX12_takesE_197 ?_
                refine lv_iconst (v := 1) hC.x hC.b dX12_takesE_200 rfl ?_
                refine lv_isub hC.x hC.b dX12_takesE_201 ?_
                refine r_puti hC hF hH pl_X12_87_12 (hL _ mM0) sM0 rfl h dX12_takesE_202 (fun m11 H locs h hH => ?_)
                refine lv_aload_n hC.x hC.b dX12_takesE_205 rfl (lv_at hl 1 rfl) ?_
                refine lv_dup hC.x hC.b dX12_takesE_206 rfl ?_
                refine r_geti hC hH fl_X12_90_12 (hL _ mM0) sM0 rfl dX12_takesE_207 ?_
                refine lv_iconst (v := 1) hC.x hC.b dX12_takesE_210 rfl ?_
                refine lv_isub hC.x hC.b dX12_takesE_211 ?_
                refine r_puti hC hF hH pl_X12_90_12 (hL _ mM0) sM0 rfl h dX12_takesE_212 (fun m12 H locs h hH => ?_)
                refine lv_aload_n hC.x hC.b dX12_takesE_215 rfl (lv_at hl 1 rfl) ?_
                refine lv_dup hC.x hC.b dX12_takesE_216 rfl ?_
                refine r_geti hC hH fl_X12_54_12 (hL _ mM0) sM0 rfl dX12_takesE_217 ?_
                refine lv_iconst (v := 1) hC.x hC.b dX12_takesE_220 rfl ?_
                refine lv_iadd hC.x hC.b dX12_takesE_221 ?_
                refine r_puti hC hF hH pl_X12_54_12 (hL _ mM0) sM0 rfl h dX12_takesE_222 (fun m13 H locs h hH => ?_)
                refine lv_aload_n hC.x hC.b dX12_takesE_225 rfl (lv_at hl 1 rfl) ?_
                obtain ⟨m14, hf14, h⟩ := bd_e h
                refine c_V0 (As := []) (rest := []) (o := 0) (q := (RX12, TX12, 74)) hC hX hE.2.1 hF hH (c_X12_whole (l := l) hk hL hE hf14) kw681 kw682 kw683 kw5 kw684 a_X12_whole.1 a_X12_whole.2 (hL _ mM0) sM0 rfl rfl hl.1 (rmk hR (by decide) (by decide)) (Nat.le_of_ble_eq_true rfl) dX12_takesE_226 (fun H locs hH => ?_)
                refine lv_goto (tgt := 22) hC.x hC.b dX12_takesE_229 (by decide) ?_
                exact ih4 x5 m14 H locs ls (ap2 es4 h) hH (lv_sub hl [1, 2, 3] rfl)
              · refine lv_iconst (v := 0) hC.x hC.b dX12_takesE_193 rfl ?_
                rw [hQ]
                exact e_n hC hr rfl hH h dX12_takesE_194
            · refine lv_iconst (v := 1) hC.x hC.b dX12_takesE_185 rfl ?_
              rw [hQ]
              exact e_n hC hr rfl hH h dX12_takesE_186
          · exact hj8  H locs ls h hH (lv_sub hl [1, 2, 0] rfl)
      · refine lv_iload_n hC.x hC.b dX12_takesE_31 rfl (lv_at hl 0 rfl) ?_
        refine lv_bipush (v := 33) hC.x hC.b dX12_takesE_32 rfl ?_
        obtain ⟨j19, ej19, h⟩ := jn_e h
        have hj19 : ∀  (H : Heap) (locs : List Loc) (ls : Array Slot), j19 = some (rv, memz) → gH D cy shM ad L (gA ad L) s.heap m6 H locs → lv_has ls 4 [(0, .ref (ad 0)), (1, .int p0), (2, .int x5), (3, .int x7)] → W p l e R s m args below meth c H locs 0 0 Q (F0 m 43 ls []) := by
          intro H locs ls h hH hl
          have h := ap0 ej19 h
          refine lv_aload_n hC.x hC.b dX12_takesE_43 rfl (lv_at hl 0 rfl) ?_
          refine r_geti hC hH fl_X12_90_12 (hL _ mM0) sM0 rfl dX12_takesE_44 ?_
          refine lv_iconst (v := 4) hC.x hC.b dX12_takesE_47 rfl ?_
          refine b_ic_ne (tgt := 53) hC dX12_takesE_48 (by decide) h (fun h => ?_) (fun h => ?_)
          · refine lv_aload_n hC.x hC.b dX12_takesE_53 rfl (lv_at hl 0 rfl) ?_
            refine lv_dup hC.x hC.b dX12_takesE_54 rfl ?_
            refine r_geti hC hH fl_X12_90_12 (hL _ mM0) sM0 rfl dX12_takesE_55 ?_
            refine lv_iconst (v := 1) hC.x hC.b dX12_takesE_58 rfl ?_
            refine lv_iadd hC.x hC.b dX12_takesE_59 ?_
            refine r_puti hC hF hH pl_X12_90_12 (hL _ mM0) sM0 rfl h dX12_takesE_60 (fun m22 H locs h hH => ?_)
            refine lv_aload_n hC.x hC.b dX12_takesE_63 rfl (lv_at hl 0 rfl) ?_
            refine r_getc (z := 13) hC hH fl_X12_81_12 (hL _ mM0) sM0 rfl dX12_takesE_64 ?_
            refine lv_aload_n hC.x hC.b dX12_takesE_67 rfl (lv_at hl 0 rfl) ?_
            refine r_geti hC hH fl_X12_87_12 (hL _ mM0) sM0 rfl dX12_takesE_68 ?_
            refine lv_iload_n hC.x hC.b dX12_takesE_71 rfl (lv_at hl 3 rfl) ?_
            refine r_iast hC hF hH (hL _ mM13) sM13 h dX12_takesE_72 (fun m23 H locs h hH => ?_)
            refine lv_aload_n hC.x hC.b dX12_takesE_73 rfl (lv_at hl 0 rfl) ?_
            refine lv_dup hC.x hC.b dX12_takesE_74 rfl ?_
            refine r_geti hC hH fl_X12_87_12 (hL _ mM0) sM0 rfl dX12_takesE_75 ?_
            refine lv_iconst (v := 1) hC.x hC.b dX12_takesE_78 rfl ?_
            refine lv_iadd hC.x hC.b dX12_takesE_79 ?_
            refine r_puti hC hF hH pl_X12_87_12 (hL _ mM0) sM0 rfl h dX12_takesE_80 (fun m24 H locs h hH => ?_)
            refine lv_aload_n hC.x hC.b dX12_takesE_83 rfl (lv_at hl 0 rfl) ?_
            refine lv_dup hC.x hC.b dX12_takesE_84 rfl ?_
            refine r_geti hC hH fl_X12_54_12 (hL _ mM0) sM0 rfl dX12_takesE_85 ?_
            refine lv_iconst (v := 1) hC.x hC.b dX12_takesE_88 rfl ?_
            refine lv_iadd hC.x hC.b dX12_takesE_89 ?_
            refine r_puti hC hF hH pl_X12_54_12 (hL _ mM0) sM0 rfl h dX12_takesE_90 (fun m25 H locs h hH => ?_)
            refine lv_goto (tgt := 22) hC.x hC.b dX12_takesE_93 (by decide) ?_
            exact ih4 x5 m25 H locs ls (ap2 es4 h) hH (lv_sub hl [0, 1, 2] rfl)
          · refine lv_iconst (v := 0) hC.x hC.b dX12_takesE_51 rfl ?_
            rw [hQ]
            exact e_n hC hr rfl hH h dX12_takesE_52
        clear ej19
        refine b_ic_eq (tgt := 43) hC dX12_takesE_34 (by decide) h (fun h => ?_) (fun h => ?_)
        · exact hj19  H locs ls h hH (lv_sub hl [1, 2, 3, 0] rfl)
        · refine lv_iload_n hC.x hC.b dX12_takesE_37 rfl (lv_at hl 0 rfl) ?_
          refine lv_bipush (v := 40) hC.x hC.b dX12_takesE_38 rfl ?_
          refine b_ic_ne (tgt := 96) hC dX12_takesE_40 (by decide) h (fun h => ?_) (fun h => ?_)
          · refine lv_aload_n hC.x hC.b dX12_takesE_96 rfl (lv_at hl 1 rfl) ?_
            obtain ⟨x21, m20, hf21, h⟩ := bd2_e h
            refine c_V1 (As := []) (rest := []) (o := 0) (q := (RX12, TX12, 74)) hC hX hE.2.1 hF hH (c_X12_takesTest (l := l) hk hL hE hf21) kw669 kw670 kw671 kw5 kw672 a_X12_takesTest.1 a_X12_takesTest.2 (hL _ mM0) sM0 rfl rfl hl.1 (rmk hR (by decide) (by decide)) (Nat.le_of_ble_eq_true rfl) dX12_takesE_97 (fun H locs hH => ?_)
            refine b_if_eq (tgt := 108) hC dX12_takesE_100 (by decide) h (fun h => ?_) (fun h => ?_)
            · refine lv_iconst (v := 0) hC.x hC.b dX12_takesE_108 rfl ?_
              rw [hQ]
              exact e_n hC hr rfl hH h dX12_takesE_109
            · refine lv_iconst (v := 0) hC.x hC.b dX12_takesE_103 rfl ?_
              refine lv_istore_n (lv' := [(2, .int (0 : Int32)), (3, .int x7), (0, .ref (ad 0)), (1, .int p0)]) hC.x hC.b dX12_takesE_104 rfl hl (by decide) rfl (fun ls hl => ?_)
              refine lv_goto (tgt := 22) hC.x hC.b dX12_takesE_105 (by decide) ?_
              exact ih4 (0 : Int32) m20 H locs ls (ap2 es4 h) hH (lv_sub hl [2, 3, 0] rfl)
          · exact hj19  H locs ls h hH (lv_sub hl [1, 2, 3, 0] rfl)
  exact hl4 _ (1 : Int32) m3 H locs ls h hH (lv_sub hl [1, 2, 0] rfl)
theorem a_X12_loud : noMH yX12_loud.cls ∧ arity yX12_loud.desc 3 := by decide +kernel
theorem a_X12_slowly : noMH yX12_slowly.cls ∧ arity yX12_slowly.desc 1 := by decide +kernel
def f_X12_noise (mem : gMem) (p0 : Int32) (p1 : Int32) (p2 : Int32) : Option (Int32 × gMem) := bd2 (f_X12_loud mem p0 p1 p2) fun (x2 : Int32) (m1 : gMem) => if okI p0 4 then lt1 (gI m1 2 (ix p0)) fun (x3 : Int32) => if x3 = 1 then (if okI p0 4 then some ((x2 + (gI m1 3 (ix p0))), m1) else none) else if x3 = 2 then (some ((x2 / (2 : Int32)), m1)) else if x3 = 3 then (bd (f_X12_slowly x2) fun (x4 : Int32) => some (x4, m1)) else if x3 = 4 then (if okI p0 4 then some (((x2 + (gI m1 3 (ix p0))) + (p2 - p2 / (3 : Int32) * (3 : Int32))), m1) else none) else if x3 = 5 then (if okI p0 4 then if (gI m1 3 (ix p0)) < x2 then (some ((x2 / (2 : Int32)), m1)) else some ((0 : Int32), m1) else none) else if x3 = 6 then (bd (f_X12_slowly x2) fun (x5 : Int32) => if okI (((4 : Int32) * p0) + (p2 - p2 / (4 : Int32) * (4 : Int32))) 16 then some ((x5 + (gI m1 5 (ix (((4 : Int32) * p0) + (p2 - p2 / (4 : Int32) * (4 : Int32)))))), m1) else none) else some (x2, m1) else none
set_option maxRecDepth 100000 in
set_option maxHeartbeats 4000000 in
theorem c_X12_noise {l : Launch} {E : State → Prop} {D : va_G} {cy : Nat → ClassId} {ad : Nat → Nat} {L : List Nat} {mem : gMem} {p0 : Int32} {p1 : Int32} {p2 : Int32} {rv : Int32} {memz : gMem} (hk : gOk ad L) (hL : ∀ o ∈ LM0, o ∈ L) (hE : gEok ad L E)  (h : f_X12_noise mem p0 p1 p2 = some (rv, memz)) : gMet l yX12_noise cX12_noise 5 (some .int) 4 103 E D cy shM ad L [.ref (ad 0), .int p0, .int p1, .int p2] mem memz (some (.int rv)) := by
  refine g_go (own := RX12) (by decide +kernel) rfl hE (Nat.le_of_ble_eq_true rfl) ?_
  intro p e s m args below meth c R Q hargs hR hQ hEs hC hr hX H locs ls hH hl
  have hF := gF_of hk
  have hl : lv_has ls 5 [(0, .ref (ad 0)), (1, .int p0), (2, .int p1), (3, .int p2)] := hl
  refine lv_aload_n hC.x hC.b dX12_noise_0 rfl (lv_at hl 0 rfl) ?_
  refine lv_iload_n hC.x hC.b dX12_noise_1 rfl (lv_at hl 1 rfl) ?_
  refine lv_iload_n hC.x hC.b dX12_noise_2 rfl (lv_at hl 2 rfl) ?_
  refine lv_iload_n hC.x hC.b dX12_noise_3 rfl (lv_at hl 3 rfl) ?_
  obtain ⟨x2, m1, hf2, h⟩ := bd2_e h
  refine c_V1 (As := [.int p0, .int p1, .int p2]) (rest := []) (o := 0) (q := (RX12, TX12, 74)) hC hX hE.2.1 hF hH (c_X12_loud (l := l) hk hL hE hf2) kw384 kw385 kw386 kw5 kw387 a_X12_loud.1 a_X12_loud.2 (hL _ mM0) sM0 rfl rfl hl.1 (rmk hR (by decide) (by decide)) (Nat.le_of_ble_eq_true rfl) dX12_noise_4 (fun H locs hH => ?_)
  refine lv_istore (lv' := [(4, .int x2), (0, .ref (ad 0)), (1, .int p0), (2, .int p1), (3, .int p2)]) hC.x hC.b dX12_noise_7 hl (by decide) rfl (fun ls hl => ?_)
  refine lv_aload_n hC.x hC.b dX12_noise_9 rfl (lv_at hl 1 rfl) ?_
  refine r_getc (z := 2) hC hH fl_X12_33_12 (hL _ mM0) sM0 rfl dX12_noise_10 ?_
  refine lv_iload_n hC.x hC.b dX12_noise_13 rfl (lv_at hl 2 rfl) ?_
  refine r_iald hC hH (hL _ mM2) sM2 h dX12_noise_14 (fun h => ?_)
  refine n_i h (fun x3 h => ?_)
  by_cases hx0 : x3 = 1
  · have h := ifp hx0 h
    refine lv_tableIn (off := 37) (tgt := 52) hC.x hC.b dX12_noise_15 (by rw [hx0]; decide) (by rw [hx0]; decide) (by rw [hx0]; rfl) (by decide) ?_
    refine lv_iload hC.x hC.b dX12_noise_52 (lv_at hl 0 rfl) ?_
    refine lv_aload_n hC.x hC.b dX12_noise_54 rfl (lv_at hl 1 rfl) ?_
    refine r_getc (z := 3) hC hH fl_X12_36_12 (hL _ mM0) sM0 rfl dX12_noise_55 ?_
    refine lv_iload_n hC.x hC.b dX12_noise_58 rfl (lv_at hl 2 rfl) ?_
    refine r_iald hC hH (hL _ mM3) sM3 h dX12_noise_59 (fun h => ?_)
    refine lv_iadd hC.x hC.b dX12_noise_60 ?_
    rw [hQ]
    exact e_i hC hr hH h dX12_noise_61
  have h := ifn hx0 h
  by_cases hx1 : x3 = 2
  · have h := ifp hx1 h
    refine lv_tableIn (off := 47) (tgt := 62) hC.x hC.b dX12_noise_15 (by rw [hx1]; decide) (by rw [hx1]; decide) (by rw [hx1]; rfl) (by decide) ?_
    refine lv_iload hC.x hC.b dX12_noise_62 (lv_at hl 0 rfl) ?_
    refine lv_iconst (v := 2) hC.x hC.b dX12_noise_64 rfl ?_
    refine lv_idiv hC.x hC.b dX12_noise_65 (by decide) ?_
    rw [hQ]
    exact e_i hC hr hH h dX12_noise_66
  have h := ifn hx1 h
  by_cases hx2 : x3 = 3
  · have h := ifp hx2 h
    refine lv_tableIn (off := 52) (tgt := 67) hC.x hC.b dX12_noise_15 (by rw [hx2]; decide) (by rw [hx2]; decide) (by rw [hx2]; rfl) (by decide) ?_
    refine lv_aload_n hC.x hC.b dX12_noise_67 rfl (lv_at hl 1 rfl) ?_
    refine lv_iload hC.x hC.b dX12_noise_68 (lv_at hl 0 rfl) ?_
    obtain ⟨x4, hf4, h⟩ := bd_e h
    refine c_V1 (As := [.int x2]) (rest := []) (o := 0) (q := (RX12, TX12, 74)) hC hX hE.2.1 hF hH (c_X12_slowly (l := l) hk hL hE hf4) kw412 kw413 kw414 kw5 kw415 a_X12_slowly.1 a_X12_slowly.2 (hL _ mM0) sM0 rfl rfl hl.1 (rmk hR (by decide) (by decide)) (Nat.le_of_ble_eq_true rfl) dX12_noise_70 (fun H locs hH => ?_)
    rw [hQ]
    exact e_i hC hr hH h dX12_noise_73
  have h := ifn hx2 h
  by_cases hx3 : x3 = 4
  · have h := ifp hx3 h
    refine lv_tableIn (off := 59) (tgt := 74) hC.x hC.b dX12_noise_15 (by rw [hx3]; decide) (by rw [hx3]; decide) (by rw [hx3]; rfl) (by decide) ?_
    refine lv_iload hC.x hC.b dX12_noise_74 (lv_at hl 0 rfl) ?_
    refine lv_aload_n hC.x hC.b dX12_noise_76 rfl (lv_at hl 1 rfl) ?_
    refine r_getc (z := 3) hC hH fl_X12_36_12 (hL _ mM0) sM0 rfl dX12_noise_77 ?_
    refine lv_iload_n hC.x hC.b dX12_noise_80 rfl (lv_at hl 2 rfl) ?_
    refine r_iald hC hH (hL _ mM3) sM3 h dX12_noise_81 (fun h => ?_)
    refine lv_iadd hC.x hC.b dX12_noise_82 ?_
    refine lv_iload_n hC.x hC.b dX12_noise_83 rfl (lv_at hl 4 rfl) ?_
    refine lv_iconst (v := 3) hC.x hC.b dX12_noise_84 rfl ?_
    refine lv_irem hC.x hC.b dX12_noise_85 (by decide) ?_
    refine lv_iadd hC.x hC.b dX12_noise_86 ?_
    rw [hQ]
    exact e_i hC hr hH h dX12_noise_87
  have h := ifn hx3 h
  by_cases hx4 : x3 = 5
  · have h := ifp hx4 h
    refine lv_tableIn (off := 73) (tgt := 88) hC.x hC.b dX12_noise_15 (by rw [hx4]; decide) (by rw [hx4]; decide) (by rw [hx4]; rfl) (by decide) ?_
    refine lv_iload hC.x hC.b dX12_noise_88 (lv_at hl 0 rfl) ?_
    refine lv_aload_n hC.x hC.b dX12_noise_90 rfl (lv_at hl 1 rfl) ?_
    refine r_getc (z := 3) hC hH fl_X12_36_12 (hL _ mM0) sM0 rfl dX12_noise_91 ?_
    refine lv_iload_n hC.x hC.b dX12_noise_94 rfl (lv_at hl 2 rfl) ?_
    refine r_iald hC hH (hL _ mM3) sM3 h dX12_noise_95 (fun h => ?_)
    refine b_ic_gt (tgt := 103) hC dX12_noise_96 (by decide) h (fun h => ?_) (fun h => ?_)
    · refine lv_iload hC.x hC.b dX12_noise_103 (lv_at hl 0 rfl) ?_
      refine lv_iconst (v := 2) hC.x hC.b dX12_noise_105 rfl ?_
      refine lv_idiv hC.x hC.b dX12_noise_106 (by decide) ?_
      rw [hQ]
      exact e_i hC hr hH h dX12_noise_107
    · refine lv_iconst (v := 0) hC.x hC.b dX12_noise_99 rfl ?_
      refine lv_goto (tgt := 107) hC.x hC.b dX12_noise_100 (by decide) ?_
      rw [hQ]
      exact e_i hC hr hH h dX12_noise_107
  have h := ifn hx4 h
  by_cases hx5 : x3 = 6
  · have h := ifp hx5 h
    refine lv_tableIn (off := 93) (tgt := 108) hC.x hC.b dX12_noise_15 (by rw [hx5]; decide) (by rw [hx5]; decide) (by rw [hx5]; rfl) (by decide) ?_
    refine lv_aload_n hC.x hC.b dX12_noise_108 rfl (lv_at hl 1 rfl) ?_
    refine lv_iload hC.x hC.b dX12_noise_109 (lv_at hl 0 rfl) ?_
    obtain ⟨x5, hf5, h⟩ := bd_e h
    refine c_V1 (As := [.int x2]) (rest := []) (o := 0) (q := (RX12, TX12, 74)) hC hX hE.2.1 hF hH (c_X12_slowly (l := l) hk hL hE hf5) kw412 kw413 kw414 kw5 kw415 a_X12_slowly.1 a_X12_slowly.2 (hL _ mM0) sM0 rfl rfl hl.1 (rmk hR (by decide) (by decide)) (Nat.le_of_ble_eq_true rfl) dX12_noise_111 (fun H locs hH => ?_)
    refine lv_aload_n hC.x hC.b dX12_noise_114 rfl (lv_at hl 1 rfl) ?_
    refine r_getc (z := 5) hC hH fl_X12_42_12 (hL _ mM0) sM0 rfl dX12_noise_115 ?_
    refine lv_iconst (v := 4) hC.x hC.b dX12_noise_118 rfl ?_
    refine lv_iload_n hC.x hC.b dX12_noise_119 rfl (lv_at hl 2 rfl) ?_
    refine lv_imul hC.x hC.b dX12_noise_120 ?_
    refine lv_iload_n hC.x hC.b dX12_noise_121 rfl (lv_at hl 4 rfl) ?_
    refine lv_iconst (v := 4) hC.x hC.b dX12_noise_122 rfl ?_
    refine lv_irem hC.x hC.b dX12_noise_123 (by decide) ?_
    refine lv_iadd hC.x hC.b dX12_noise_124 ?_
    refine r_iald hC hH (hL _ mM5) sM5 h dX12_noise_125 (fun h => ?_)
    refine lv_iadd hC.x hC.b dX12_noise_126 ?_
    rw [hQ]
    exact e_i hC hr hH h dX12_noise_127
  have h := ifn hx5 h
  refine lv_tableOut (tgt := 128) hC.x hC.b dX12_noise_15 (by have a0 := ne_ti (v := 1) (z := 1) rfl hx0; have a1 := ne_ti (v := 2) (z := 2) rfl hx1; have a2 := ne_ti (v := 3) (z := 3) rfl hx2; have a3 := ne_ti (v := 4) (z := 4) rfl hx3; have a4 := ne_ti (v := 5) (z := 5) rfl hx4; have a5 := ne_ti (v := 6) (z := 6) rfl hx5; omega) (by decide) ?_
  refine lv_iload hC.x hC.b dX12_noise_128 (lv_at hl 0 rfl) ?_
  rw [hQ]
  exact e_i hC hr hH h dX12_noise_130
theorem a_X12_depthAt : noMH yX12_depthAt.cls ∧ arity yX12_depthAt.desc 1 := by decide +kernel
def f_X12_told (mem : gMem) (p0 : Int32) : Option (Int32 × gMem) := if p0 = 0 then (some ((gI mem 0 1), mem)) else if p0 = 1 then (some ((gI mem 0 2), mem)) else if p0 = 2 then (if (gI mem 0 5) = 0 then (some ((0 : Int32), mem)) else some ((1 : Int32), mem)) else if p0 = 3 then (bd2 (f_X12_depthAt mem (gI mem 0 1)) fun (x2 : Int32) (m1 : gMem) => some (x2, m1)) else if p0 = 4 then (some ((gI mem 0 4), mem)) else if p0 = 5 then (some ((gI mem 0 3), mem)) else some ((-1 : Int32), mem)
set_option maxRecDepth 100000 in
set_option maxHeartbeats 4000000 in
theorem c_X12_told {l : Launch} {E : State → Prop} {D : va_G} {cy : Nat → ClassId} {ad : Nat → Nat} {L : List Nat} {mem : gMem} {p0 : Int32} {rv : Int32} {memz : gMem} (hk : gOk ad L) (hL : ∀ o ∈ LM0, o ∈ L) (hE : gEok ad L E)  (h : f_X12_told mem p0 = some (rv, memz)) : gMet l yX12_told cX12_told 2 (some .int) 4 100 E D cy shM ad L [.ref (ad 0), .int p0] mem memz (some (.int rv)) := by
  refine g_go (own := RX12) (by decide +kernel) rfl hE (Nat.le_of_ble_eq_true rfl) ?_
  intro p e s m args below meth c R Q hargs hR hQ hEs hC hr hX H locs ls hH hl
  have hF := gF_of hk
  have hl : lv_has ls 2 [(0, .ref (ad 0)), (1, .int p0)] := hl
  refine lv_iload_n hC.x hC.b dX12_told_0 rfl (lv_at hl 1 rfl) ?_
  by_cases hx0 : p0 = 0
  · have h := ifp hx0 h
    refine lv_tableIn (off := 39) (tgt := 40) hC.x hC.b dX12_told_1 (by rw [hx0]; decide) (by rw [hx0]; decide) (by rw [hx0]; rfl) (by decide) ?_
    refine lv_aload_n hC.x hC.b dX12_told_40 rfl (lv_at hl 0 rfl) ?_
    refine r_geti hC hH fl_X12_13_12 (hL _ mM0) sM0 rfl dX12_told_41 ?_
    rw [hQ]
    exact e_i hC hr hH h dX12_told_44
  have h := ifn hx0 h
  by_cases hx1 : p0 = 1
  · have h := ifp hx1 h
    refine lv_tableIn (off := 44) (tgt := 45) hC.x hC.b dX12_told_1 (by rw [hx1]; decide) (by rw [hx1]; decide) (by rw [hx1]; rfl) (by decide) ?_
    refine lv_aload_n hC.x hC.b dX12_told_45 rfl (lv_at hl 0 rfl) ?_
    refine r_geti hC hH fl_X12_16_12 (hL _ mM0) sM0 rfl dX12_told_46 ?_
    rw [hQ]
    exact e_i hC hr hH h dX12_told_49
  have h := ifn hx1 h
  by_cases hx2 : p0 = 2
  · have h := ifp hx2 h
    refine lv_tableIn (off := 49) (tgt := 50) hC.x hC.b dX12_told_1 (by rw [hx2]; decide) (by rw [hx2]; decide) (by rw [hx2]; rfl) (by decide) ?_
    refine lv_aload_n hC.x hC.b dX12_told_50 rfl (lv_at hl 0 rfl) ?_
    refine r_geti hC hH fl_X12_25_12 (hL _ mM0) sM0 rfl dX12_told_51 ?_
    refine b_if_eq (tgt := 61) hC dX12_told_54 (by decide) h (fun h => ?_) (fun h => ?_)
    · refine lv_iconst (v := 0) hC.x hC.b dX12_told_61 rfl ?_
      rw [hQ]
      exact e_i hC hr hH h dX12_told_62
    · refine lv_iconst (v := 1) hC.x hC.b dX12_told_57 rfl ?_
      refine lv_goto (tgt := 62) hC.x hC.b dX12_told_58 (by decide) ?_
      rw [hQ]
      exact e_i hC hr hH h dX12_told_62
  have h := ifn hx2 h
  by_cases hx3 : p0 = 3
  · have h := ifp hx3 h
    refine lv_tableIn (off := 62) (tgt := 63) hC.x hC.b dX12_told_1 (by rw [hx3]; decide) (by rw [hx3]; decide) (by rw [hx3]; rfl) (by decide) ?_
    refine lv_aload_n hC.x hC.b dX12_told_63 rfl (lv_at hl 0 rfl) ?_
    refine lv_aload_n hC.x hC.b dX12_told_64 rfl (lv_at hl 0 rfl) ?_
    refine r_geti hC hH fl_X12_13_12 (hL _ mM0) sM0 rfl dX12_told_65 ?_
    obtain ⟨x2, m1, hf2, h⟩ := bd2_e h
    refine c_V1 (As := [.int (gI mem 0 1)]) (rest := []) (o := 0) (q := (RX12, TX12, 74)) hC hX hE.2.1 hF hH (c_X12_depthAt (l := l) hk hL hE hf2) kw707 kw708 kw709 kw5 kw710 a_X12_depthAt.1 a_X12_depthAt.2 (hL _ mM0) sM0 rfl rfl hl.1 (rmk hR (by decide) (by decide)) (Nat.le_of_ble_eq_true rfl) dX12_told_68 (fun H locs hH => ?_)
    rw [hQ]
    exact e_i hC hr hH h dX12_told_71
  have h := ifn hx3 h
  by_cases hx4 : p0 = 4
  · have h := ifp hx4 h
    refine lv_tableIn (off := 71) (tgt := 72) hC.x hC.b dX12_told_1 (by rw [hx4]; decide) (by rw [hx4]; decide) (by rw [hx4]; rfl) (by decide) ?_
    refine lv_aload_n hC.x hC.b dX12_told_72 rfl (lv_at hl 0 rfl) ?_
    refine r_geti hC hH fl_X12_22_12 (hL _ mM0) sM0 rfl dX12_told_73 ?_
    rw [hQ]
    exact e_i hC hr hH h dX12_told_76
  have h := ifn hx4 h
  by_cases hx5 : p0 = 5
  · have h := ifp hx5 h
    refine lv_tableIn (off := 76) (tgt := 77) hC.x hC.b dX12_told_1 (by rw [hx5]; decide) (by rw [hx5]; decide) (by rw [hx5]; rfl) (by decide) ?_
    refine lv_aload_n hC.x hC.b dX12_told_77 rfl (lv_at hl 0 rfl) ?_
    refine r_geti hC hH fl_X12_19_12 (hL _ mM0) sM0 rfl dX12_told_78 ?_
    rw [hQ]
    exact e_i hC hr hH h dX12_told_81
  have h := ifn hx5 h
  refine lv_tableOut (tgt := 82) hC.x hC.b dX12_told_1 (by have a0 := ne_ti (v := 0) (z := 0) rfl hx0; have a1 := ne_ti (v := 1) (z := 1) rfl hx1; have a2 := ne_ti (v := 2) (z := 2) rfl hx2; have a3 := ne_ti (v := 3) (z := 3) rfl hx3; have a4 := ne_ti (v := 4) (z := 4) rfl hx4; have a5 := ne_ti (v := 5) (z := 5) rfl hx5; omega) (by decide) ?_
  refine lv_iconst (v := -1) hC.x hC.b dX12_told_82 rfl ?_
  rw [hQ]
  exact e_i hC hr hH h dX12_told_83
def s_X12_looked_2 (self1 : Int32 → gMem → Option (Int32 × gMem)) (x2 : Int32) (m3 : gMem) : Option (Int32 × gMem) := if (gI m3 0 45) ≤ x2 then (some ((-5 : Int32), m3)) else bd2 (f_X12_depthAt m3 (((gI m3 0 1) + x2) + (1 : Int32))) fun (x5 : Int32) (m4 : gMem) => if okI x2 12 then if x5 = (gI m4 24 (ix x2)) then (lt1 (x2 + (1 : Int32)) fun (x6 : Int32) => (self1 x6 m4)) else some (x2, m4) else none
def f_X12_looked (mem : gMem) : Option (Int32 × gMem) := lq2 (s_X12_looked_2) 1000 (0 : Int32) mem
set_option maxRecDepth 100000 in
set_option maxHeartbeats 4000000 in
theorem c_X12_looked {l : Launch} {E : State → Prop} {D : va_G} {cy : Nat → ClassId} {ad : Nat → Nat} {L : List Nat} {mem : gMem} {rv : Int32} {memz : gMem} (hk : gOk ad L) (hL : ∀ o ∈ LM0, o ∈ L) (hE : gEok ad L E)  (h : f_X12_looked mem = some (rv, memz)) : gMet l yX12_looked cX12_looked 2 (some .int) 4 100 E D cy shM ad L [.ref (ad 0)] mem memz (some (.int rv)) := by
  refine g_go (own := RX12) (by decide +kernel) rfl hE (Nat.le_of_ble_eq_true rfl) ?_
  intro p e s m args below meth c R Q hargs hR hQ hEs hC hr hX H locs ls hH hl
  have hF := gF_of hk
  have hl : lv_has ls 2 [(0, .ref (ad 0))] := hl
  refine lv_iconst (v := 0) hC.x hC.b dX12_looked_0 rfl ?_
  refine lv_istore_n (lv' := [(1, .int (0 : Int32)), (0, .ref (ad 0))]) hC.x hC.b dX12_looked_1 rfl hl (by decide) rfl (fun ls hl => ?_)
  have hl1 : ∀ (n : Nat) (x2 : Int32) (m3 : gMem) (H : Heap) (locs : List Loc) (ls : Array Slot), lq2 (s_X12_looked_2) n x2 m3 = some (rv, memz) → gH D cy shM ad L (gA ad L) s.heap m3 H locs → lv_has ls 2 [(0, .ref (ad 0)), (1, .int x2)] → W p l e R s m args below meth c H locs 0 0 Q (F0 m 2 ls []) := by
    intro n
    induction n with
    | zero => intro x2 m3 H locs ls h _ _; exact lq2_0 h
    | succ n ih1 =>
      intro x2 m3 H locs ls h hH hl
      obtain ⟨self1, es1, h⟩ := lq2_s h
      refine lv_iload_n hC.x hC.b dX12_looked_2 rfl (lv_at hl 1 rfl) ?_
      refine lv_aload_n hC.x hC.b dX12_looked_3 rfl (lv_at hl 0 rfl) ?_
      refine r_geti hC hH fl_X12_148_12 (hL _ mM0) sM0 rfl dX12_looked_4 ?_
      refine b_ic_ge (tgt := 39) hC dX12_looked_7 (by decide) h (fun h => ?_) (fun h => ?_)
      · refine lv_bipush (v := -5) hC.x hC.b dX12_looked_39 rfl ?_
        rw [hQ]
        exact e_i hC hr hH h dX12_looked_41
      · refine lv_aload_n hC.x hC.b dX12_looked_10 rfl (lv_at hl 0 rfl) ?_
        refine lv_aload_n hC.x hC.b dX12_looked_11 rfl (lv_at hl 0 rfl) ?_
        refine r_geti hC hH fl_X12_13_12 (hL _ mM0) sM0 rfl dX12_looked_12 ?_
        refine lv_iload_n hC.x hC.b dX12_looked_15 rfl (lv_at hl 1 rfl) ?_
        refine lv_iadd hC.x hC.b dX12_looked_16 ?_
        refine lv_iconst (v := 1) hC.x hC.b dX12_looked_17 rfl ?_
        refine lv_iadd hC.x hC.b dX12_looked_18 ?_
        obtain ⟨x5, m4, hf5, h⟩ := bd2_e h
        refine c_V1 (As := [.int (((gI m3 0 1) + x2) + (1 : Int32))]) (rest := []) (o := 0) (q := (RX12, TX12, 74)) hC hX hE.2.1 hF hH (c_X12_depthAt (l := l) hk hL hE hf5) kw707 kw708 kw709 kw5 kw710 a_X12_depthAt.1 a_X12_depthAt.2 (hL _ mM0) sM0 rfl rfl hl.1 (rmk hR (by decide) (by decide)) (Nat.le_of_ble_eq_true rfl) dX12_looked_19 (fun H locs hH => ?_)
        refine lv_aload_n hC.x hC.b dX12_looked_22 rfl (lv_at hl 0 rfl) ?_
        refine r_getc (z := 24) hC hH fl_X12_151_12 (hL _ mM0) sM0 rfl dX12_looked_23 ?_
        refine lv_iload_n hC.x hC.b dX12_looked_26 rfl (lv_at hl 1 rfl) ?_
        refine r_iald hC hH (hL _ mM24) sM24 h dX12_looked_27 (fun h => ?_)
        refine b_ic_eq (tgt := 33) hC dX12_looked_28 (by decide) h (fun h => ?_) (fun h => ?_)
        · refine i_inc (lv' := fun x6 => [(1, .int x6), (0, .ref (ad 0))]) hC dX12_looked_33 hl (k := 1) rfl (by decide) (fun _ => rfl) (z := 1) rfl h (fun x6 ls h hl => ?_)
          refine lv_goto (tgt := 2) hC.x hC.b dX12_looked_36 (by decide) ?_
          exact ih1 x6 m4 H locs ls (ap2 es1 h) hH (lv_sub hl [1, 0] rfl)
        · refine lv_iload_n hC.x hC.b dX12_looked_31 rfl (lv_at hl 1 rfl) ?_
          rw [hQ]
          exact e_i hC hr hH h dX12_looked_32
  exact hl1 _ (0 : Int32) mem H locs ls h hH (lv_sub hl [1, 0] rfl)
theorem a_X12_walkerGoes : noMH yX12_walkerGoes.cls ∧ arity yX12_walkerGoes.desc 2 := by decide +kernel
def f_X12_heavyGoes (mem : gMem) (p0 : Int32) (p1 : Int32) : Option (Int32 × gMem) := bd (f_X12_body mem (20 : Int32)) fun (m1 : gMem) => bd2 (f_X12_walkerGoes m1 p0 p1) fun (x3 : Int32) (m2 : gMem) => some ((x3 ^^^ (6 : Int32)), m2)
set_option maxRecDepth 100000 in
set_option maxHeartbeats 4000000 in
theorem c_X12_heavyGoes {l : Launch} {E : State → Prop} {D : va_G} {cy : Nat → ClassId} {ad : Nat → Nat} {L : List Nat} {mem : gMem} {p0 : Int32} {p1 : Int32} {rv : Int32} {memz : gMem} (hk : gOk ad L) (hL : ∀ o ∈ LM0, o ∈ L) (hE : gEok ad L E)  (h : f_X12_heavyGoes mem p0 p1 = some (rv, memz)) : gMet l yX12_heavyGoes cX12_heavyGoes 3 (some .int) 4 87 E D cy shM ad L [.ref (ad 0), .int p0, .int p1] mem memz (some (.int rv)) := by
  refine g_go (own := RX12) (by decide +kernel) rfl hE (Nat.le_of_ble_eq_true rfl) ?_
  intro p e s m args below meth c R Q hargs hR hQ hEs hC hr hX H locs ls hH hl
  have hF := gF_of hk
  have hl : lv_has ls 3 [(0, .ref (ad 0)), (1, .int p0), (2, .int p1)] := hl
  refine lv_aload_n hC.x hC.b dX12_heavyGoes_0 rfl (lv_at hl 0 rfl) ?_
  refine lv_bipush (v := 20) hC.x hC.b dX12_heavyGoes_1 rfl ?_
  obtain ⟨m1, hf1, h⟩ := bd_e h
  refine c_V0 (As := [.int (20 : Int32)]) (rest := []) (o := 0) (q := (RX12, TX12, 74)) hC hX hE.2.1 hF hH (c_X12_body (l := l) hk hL hE hf1) kw1242 kw1243 kw1244 kw5 kw1245 a_X12_body.1 a_X12_body.2 (hL _ mM0) sM0 rfl rfl hl.1 (rmk hR (by decide) (by decide)) (Nat.le_of_ble_eq_true rfl) dX12_heavyGoes_3 (fun H locs hH => ?_)
  refine lv_aload_n hC.x hC.b dX12_heavyGoes_6 rfl (lv_at hl 0 rfl) ?_
  refine lv_iload_n hC.x hC.b dX12_heavyGoes_7 rfl (lv_at hl 1 rfl) ?_
  refine lv_iload_n hC.x hC.b dX12_heavyGoes_8 rfl (lv_at hl 2 rfl) ?_
  obtain ⟨x3, m2, hf3, h⟩ := bd2_e h
  refine c_V1 (As := [.int p0, .int p1]) (rest := []) (o := 0) (q := (RX12, TX12, 74)) hC hX hE.2.1 hF hH (c_X12_walkerGoes (l := l) hk hL hE hf3) kw1258 kw1259 kw1260 kw5 kw1261 a_X12_walkerGoes.1 a_X12_walkerGoes.2 (hL _ mM0) sM0 rfl rfl hl.1 (rmk hR (by decide) (by decide)) (Nat.le_of_ble_eq_true rfl) dX12_heavyGoes_9 (fun H locs hH => ?_)
  refine lv_bipush (v := 6) hC.x hC.b dX12_heavyGoes_12 rfl ?_
  refine lv_ixor hC.x hC.b dX12_heavyGoes_14 ?_
  rw [hQ]
  exact e_i hC hr hH h dX12_heavyGoes_15
theorem a_X12_takesHead : noMH yX12_takesHead.cls ∧ arity yX12_takesHead.desc 1 := by decide +kernel
theorem a_X12_takesE : noMH yX12_takesE.cls ∧ arity yX12_takesE.desc 1 := by decide +kernel
def f_X12_takesClause (mem : gMem) (p0 : Int32) : Option (Int32 × gMem) := bd2 (f_X12_takesHead mem p0) fun (x2 : Int32) (m1 : gMem) => if x2 = 0 then (some ((0 : Int32), m1)) else bd2 (f_X12_takesNumber m1) fun (x4 : Int32) (m3 : gMem) => if x4 = 0 then (some ((0 : Int32), m3)) else if okI p0 60 then lt1 (gsI m3 9 (ix p0) (gI m3 0 15)) fun (m5 : gMem) => bd2 (f_X12_takes m5 (32 : Int32)) fun (x7 : Int32) (m6 : gMem) => if x7 = 0 then (some ((0 : Int32), m6)) else bd2 (f_X12_takesE m6 p0) fun (x9 : Int32) (m8 : gMem) => if x9 = 0 then (some ((0 : Int32), m8)) else some ((1 : Int32), m8) else none
set_option maxRecDepth 100000 in
set_option maxHeartbeats 4000000 in
theorem c_X12_takesClause {l : Launch} {E : State → Prop} {D : va_G} {cy : Nat → ClassId} {ad : Nat → Nat} {L : List Nat} {mem : gMem} {p0 : Int32} {rv : Int32} {memz : gMem} (hk : gOk ad L) (hL : ∀ o ∈ LM0, o ∈ L) (hE : gEok ad L E)  (h : f_X12_takesClause mem p0 = some (rv, memz)) : gMet l yX12_takesClause cX12_takesClause 2 (some .boolean) 5 109 E D cy shM ad L [.ref (ad 0), .int p0] mem memz (some (.int rv)) := by
  refine g_go (own := RX12) (by decide +kernel) rfl hE (Nat.le_of_ble_eq_true rfl) ?_
  intro p e s m args below meth c R Q hargs hR hQ hEs hC hr hX H locs ls hH hl
  have hF := gF_of hk
  have hl : lv_has ls 2 [(0, .ref (ad 0)), (1, .int p0)] := hl
  refine lv_aload_n hC.x hC.b dX12_takesClause_0 rfl (lv_at hl 0 rfl) ?_
  refine lv_iload_n hC.x hC.b dX12_takesClause_1 rfl (lv_at hl 1 rfl) ?_
  obtain ⟨x2, m1, hf2, h⟩ := bd2_e h
  refine c_V1 (As := [.int p0]) (rest := []) (o := 0) (q := (RX12, TX12, 74)) hC hX hE.2.1 hF hH (c_X12_takesHead (l := l) hk hL hE hf2) kw641 kw642 kw643 kw5 kw644 a_X12_takesHead.1 a_X12_takesHead.2 (hL _ mM0) sM0 rfl rfl hl.1 (rmk hR (by decide) (by decide)) (Nat.le_of_ble_eq_true rfl) dX12_takesClause_2 (fun H locs hH => ?_)
  refine b_if_eq (tgt := 15) hC dX12_takesClause_5 (by decide) h (fun h => ?_) (fun h => ?_)
  · refine lv_iconst (v := 0) hC.x hC.b dX12_takesClause_15 rfl ?_
    rw [hQ]
    exact e_n hC hr rfl hH h dX12_takesClause_16
  · refine lv_aload_n hC.x hC.b dX12_takesClause_8 rfl (lv_at hl 0 rfl) ?_
    obtain ⟨x4, m3, hf4, h⟩ := bd2_e h
    refine c_V1 (As := []) (rest := []) (o := 0) (q := (RX12, TX12, 74)) hC hX hE.2.1 hF hH (c_X12_takesNumber (l := l) hk hL hE hf4) kw657 kw658 kw659 kw5 kw660 a_X12_takesNumber.1 a_X12_takesNumber.2 (hL _ mM0) sM0 rfl rfl hl.1 (rmk hR (by decide) (by decide)) (Nat.le_of_ble_eq_true rfl) dX12_takesClause_9 (fun H locs hH => ?_)
    refine b_if_ne (tgt := 17) hC dX12_takesClause_12 (by decide) h (fun h => ?_) (fun h => ?_)
    · refine lv_aload_n hC.x hC.b dX12_takesClause_17 rfl (lv_at hl 0 rfl) ?_
      refine r_getc (z := 9) hC hH fl_X12_69_12 (hL _ mM0) sM0 rfl dX12_takesClause_18 ?_
      refine lv_iload_n hC.x hC.b dX12_takesClause_21 rfl (lv_at hl 1 rfl) ?_
      refine lv_aload_n hC.x hC.b dX12_takesClause_22 rfl (lv_at hl 0 rfl) ?_
      refine r_geti hC hH fl_X12_57_12 (hL _ mM0) sM0 rfl dX12_takesClause_23 ?_
      refine r_iast hC hF hH (hL _ mM9) sM9 h dX12_takesClause_26 (fun m5 H locs h hH => ?_)
      refine lv_aload_n hC.x hC.b dX12_takesClause_27 rfl (lv_at hl 0 rfl) ?_
      refine lv_bipush (v := 32) hC.x hC.b dX12_takesClause_28 rfl ?_
      obtain ⟨x7, m6, hf7, h⟩ := bd2_e h
      refine c_V1 (As := [.int (32 : Int32)]) (rest := []) (o := 0) (q := (RX12, TX12, 74)) hC hX hE.2.1 hF hH (c_X12_takes (l := l) hk hL hE hf7) kw653 kw654 kw655 kw5 kw656 a_X12_takes.1 a_X12_takes.2 (hL _ mM0) sM0 rfl rfl hl.1 (rmk hR (by decide) (by decide)) (Nat.le_of_ble_eq_true rfl) dX12_takesClause_30 (fun H locs hH => ?_)
      refine b_if_eq (tgt := 48) hC dX12_takesClause_33 (by decide) h (fun h => ?_) (fun h => ?_)
      · refine lv_iconst (v := 0) hC.x hC.b dX12_takesClause_48 rfl ?_
        rw [hQ]
        exact e_n hC hr rfl hH h dX12_takesClause_49
      · refine lv_aload_n hC.x hC.b dX12_takesClause_36 rfl (lv_at hl 0 rfl) ?_
        refine lv_iload_n hC.x hC.b dX12_takesClause_37 rfl (lv_at hl 1 rfl) ?_
        obtain ⟨x9, m8, hf9, h⟩ := bd2_e h
        refine c_V1 (As := [.int p0]) (rest := []) (o := 0) (q := (RX12, TX12, 74)) hC hX hE.2.1 hF hH (c_X12_takesE (l := l) hk hL hE hf9) kw665 kw666 kw667 kw5 kw668 a_X12_takesE.1 a_X12_takesE.2 (hL _ mM0) sM0 rfl rfl hl.1 (rmk hR (by decide) (by decide)) (Nat.le_of_ble_eq_true rfl) dX12_takesClause_38 (fun H locs hH => ?_)
        refine b_if_eq (tgt := 48) hC dX12_takesClause_41 (by decide) h (fun h => ?_) (fun h => ?_)
        · refine lv_iconst (v := 0) hC.x hC.b dX12_takesClause_48 rfl ?_
          rw [hQ]
          exact e_n hC hr rfl hH h dX12_takesClause_49
        · refine lv_iconst (v := 1) hC.x hC.b dX12_takesClause_44 rfl ?_
          refine lv_goto (tgt := 49) hC.x hC.b dX12_takesClause_45 (by decide) ?_
          rw [hQ]
          exact e_n hC hr rfl hH h dX12_takesClause_49
    · refine lv_iconst (v := 0) hC.x hC.b dX12_takesClause_15 rfl ?_
      rw [hQ]
      exact e_n hC hr rfl hH h dX12_takesClause_16
theorem a_X12_noise : noMH yX12_noise.cls ∧ arity yX12_noise.desc 3 := by decide +kernel
def f_X12_of (mem : gMem) (p0 : Int32) (p1 : Int32) : Option (Int32 × gMem) := bd (f_X12_isWalker mem p0) fun (x1 : Int32) => if x1 = 0 then (some ((-1 : Int32), mem)) else bd (f_X12_in p1 (10 : Int32) (21 : Int32)) fun (x2 : Int32) => if x2 = 0 then (if p1 = 0 then (if okI p0 4 then some ((gI mem 2 (ix p0)), mem) else none) else if p1 = (1 : Int32) then (if okI p0 4 then some ((gI mem 3 (ix p0)), mem) else none) else if p1 = (2 : Int32) then (if okI p0 4 then some ((gI mem 4 (ix p0)), mem) else none) else some ((-1 : Int32), mem)) else bd2 (f_X12_noise mem p0 (p1 - (10 : Int32)) (gI mem 0 1)) fun (x4 : Int32) (m3 : gMem) => some (x4, m3)
set_option maxRecDepth 100000 in
set_option maxHeartbeats 4000000 in
theorem c_X12_of {l : Launch} {E : State → Prop} {D : va_G} {cy : Nat → ClassId} {ad : Nat → Nat} {L : List Nat} {mem : gMem} {p0 : Int32} {p1 : Int32} {rv : Int32} {memz : gMem} (hk : gOk ad L) (hL : ∀ o ∈ LM0, o ∈ L) (hE : gEok ad L E)  (h : f_X12_of mem p0 p1 = some (rv, memz)) : gMet l yX12_of cX12_of 3 (some .int) 5 127 E D cy shM ad L [.ref (ad 0), .int p0, .int p1] mem memz (some (.int rv)) := by
  refine g_go (own := RX12) (by decide +kernel) rfl hE (Nat.le_of_ble_eq_true rfl) ?_
  intro p e s m args below meth c R Q hargs hR hQ hEs hC hr hX H locs ls hH hl
  have hF := gF_of hk
  have hl : lv_has ls 3 [(0, .ref (ad 0)), (1, .int p0), (2, .int p1)] := hl
  refine lv_aload_n hC.x hC.b dX12_of_0 rfl (lv_at hl 0 rfl) ?_
  refine lv_iload_n hC.x hC.b dX12_of_1 rfl (lv_at hl 1 rfl) ?_
  obtain ⟨x1, hf1, h⟩ := bd_e h
  refine c_V1 (As := [.int p0]) (rest := []) (o := 0) (q := (RX12, TX12, 74)) hC hX hE.2.1 hF hH (c_X12_isWalker (l := l) hk hL hE hf1) kw376 kw377 kw378 kw5 kw379 a_X12_isWalker.1 a_X12_isWalker.2 (hL _ mM0) sM0 rfl rfl hl.1 (rmk hR (by decide) (by decide)) (Nat.le_of_ble_eq_true rfl) dX12_of_2 (fun H locs hH => ?_)
  refine b_if_ne (tgt := 10) hC dX12_of_5 (by decide) h (fun h => ?_) (fun h => ?_)
  · refine lv_aload_n hC.x hC.b dX12_of_10 rfl (lv_at hl 0 rfl) ?_
    refine lv_iload_n hC.x hC.b dX12_of_11 rfl (lv_at hl 2 rfl) ?_
    refine lv_bipush (v := 10) hC.x hC.b dX12_of_12 rfl ?_
    refine lv_bipush (v := 21) hC.x hC.b dX12_of_14 rfl ?_
    obtain ⟨x2, hf2, h⟩ := bd_e h
    refine c_V1 (As := [.int p1, .int (10 : Int32), .int (21 : Int32)]) (rest := []) (o := 0) (q := (RX12, TX12, 74)) hC hX hE.2.1 hF hH (c_X12_in (l := l) hk hL hE hf2) kw167 kw168 kw169 kw5 kw170 a_X12_in.1 a_X12_in.2 (hL _ mM0) sM0 rfl rfl hl.1 (rmk hR (by decide) (by decide)) (Nat.le_of_ble_eq_true rfl) dX12_of_16 (fun H locs hH => ?_)
    refine b_if_eq (tgt := 36) hC dX12_of_19 (by decide) h (fun h => ?_) (fun h => ?_)
    · refine lv_iload_n hC.x hC.b dX12_of_36 rfl (lv_at hl 2 rfl) ?_
      refine b_if_ne (tgt := 49) hC dX12_of_37 (by decide) h (fun h => ?_) (fun h => ?_)
      · refine lv_iload_n hC.x hC.b dX12_of_49 rfl (lv_at hl 2 rfl) ?_
        refine lv_iconst (v := 1) hC.x hC.b dX12_of_50 rfl ?_
        refine b_ic_ne (tgt := 63) hC dX12_of_51 (by decide) h (fun h => ?_) (fun h => ?_)
        · refine lv_iload_n hC.x hC.b dX12_of_63 rfl (lv_at hl 2 rfl) ?_
          refine lv_iconst (v := 2) hC.x hC.b dX12_of_64 rfl ?_
          refine b_ic_ne (tgt := 77) hC dX12_of_65 (by decide) h (fun h => ?_) (fun h => ?_)
          · refine lv_iconst (v := -1) hC.x hC.b dX12_of_77 rfl ?_
            rw [hQ]
            exact e_i hC hr hH h dX12_of_78
          · refine lv_aload_n hC.x hC.b dX12_of_68 rfl (lv_at hl 0 rfl) ?_
            refine r_getc (z := 4) hC hH fl_X12_39_12 (hL _ mM0) sM0 rfl dX12_of_69 ?_
            refine lv_iload_n hC.x hC.b dX12_of_72 rfl (lv_at hl 1 rfl) ?_
            refine r_iald hC hH (hL _ mM4) sM4 h dX12_of_73 (fun h => ?_)
            refine lv_goto (tgt := 78) hC.x hC.b dX12_of_74 (by decide) ?_
            rw [hQ]
            exact e_i hC hr hH h dX12_of_78
        · refine lv_aload_n hC.x hC.b dX12_of_54 rfl (lv_at hl 0 rfl) ?_
          refine r_getc (z := 3) hC hH fl_X12_36_12 (hL _ mM0) sM0 rfl dX12_of_55 ?_
          refine lv_iload_n hC.x hC.b dX12_of_58 rfl (lv_at hl 1 rfl) ?_
          refine r_iald hC hH (hL _ mM3) sM3 h dX12_of_59 (fun h => ?_)
          refine lv_goto (tgt := 78) hC.x hC.b dX12_of_60 (by decide) ?_
          rw [hQ]
          exact e_i hC hr hH h dX12_of_78
      · refine lv_aload_n hC.x hC.b dX12_of_40 rfl (lv_at hl 0 rfl) ?_
        refine r_getc (z := 2) hC hH fl_X12_33_12 (hL _ mM0) sM0 rfl dX12_of_41 ?_
        refine lv_iload_n hC.x hC.b dX12_of_44 rfl (lv_at hl 1 rfl) ?_
        refine r_iald hC hH (hL _ mM2) sM2 h dX12_of_45 (fun h => ?_)
        refine lv_goto (tgt := 78) hC.x hC.b dX12_of_46 (by decide) ?_
        rw [hQ]
        exact e_i hC hr hH h dX12_of_78
    · refine lv_aload_n hC.x hC.b dX12_of_22 rfl (lv_at hl 0 rfl) ?_
      refine lv_iload_n hC.x hC.b dX12_of_23 rfl (lv_at hl 1 rfl) ?_
      refine lv_iload_n hC.x hC.b dX12_of_24 rfl (lv_at hl 2 rfl) ?_
      refine lv_bipush (v := 10) hC.x hC.b dX12_of_25 rfl ?_
      refine lv_isub hC.x hC.b dX12_of_27 ?_
      refine lv_aload_n hC.x hC.b dX12_of_28 rfl (lv_at hl 0 rfl) ?_
      refine r_geti hC hH fl_X12_13_12 (hL _ mM0) sM0 rfl dX12_of_29 ?_
      obtain ⟨x4, m3, hf4, h⟩ := bd2_e h
      refine c_V1 (As := [.int p0, .int (p1 - (10 : Int32)), .int (gI mem 0 1)]) (rest := []) (o := 0) (q := (RX12, TX12, 74)) hC hX hE.2.1 hF hH (c_X12_noise (l := l) hk hL hE hf4) kw380 kw381 kw382 kw5 kw383 a_X12_noise.1 a_X12_noise.2 (hL _ mM0) sM0 rfl rfl hl.1 (rmk hR (by decide) (by decide)) (Nat.le_of_ble_eq_true rfl) dX12_of_32 (fun H locs hH => ?_)
      rw [hQ]
      exact e_i hC hr hH h dX12_of_35
  · refine lv_iconst (v := -1) hC.x hC.b dX12_of_8 rfl ?_
    rw [hQ]
    exact e_i hC hr hH h dX12_of_9
def f_X12_stirsBy (mem : gMem) (p0 : Int32) (p1 : Int32) (p2 : Int32) (p3 : Int32) : Option (Int32 × gMem) := bd2 (f_X12_noise mem p0 p1 p2) fun (x2 : Int32) (m1 : gMem) => bd2 (f_X12_depthAt m1 p2) fun (x4 : Int32) (m3 : gMem) => if x2 ≤ x4 then (if ((2 : Int32) * x2) ≤ x4 then (some (p3, m3)) else some ((p3 + (1 : Int32)), m3)) else some ((3 : Int32), m3)
set_option maxRecDepth 100000 in
set_option maxHeartbeats 4000000 in
theorem c_X12_stirsBy {l : Launch} {E : State → Prop} {D : va_G} {cy : Nat → ClassId} {ad : Nat → Nat} {L : List Nat} {mem : gMem} {p0 : Int32} {p1 : Int32} {p2 : Int32} {p3 : Int32} {rv : Int32} {memz : gMem} (hk : gOk ad L) (hL : ∀ o ∈ LM0, o ∈ L) (hE : gEok ad L E)  (h : f_X12_stirsBy mem p0 p1 p2 p3 = some (rv, memz)) : gMet l yX12_stirsBy cX12_stirsBy 7 (some .int) 5 127 E D cy shM ad L [.ref (ad 0), .int p0, .int p1, .int p2, .int p3] mem memz (some (.int rv)) := by
  refine g_go (own := RX12) (by decide +kernel) rfl hE (Nat.le_of_ble_eq_true rfl) ?_
  intro p e s m args below meth c R Q hargs hR hQ hEs hC hr hX H locs ls hH hl
  have hF := gF_of hk
  have hl : lv_has ls 7 [(0, .ref (ad 0)), (1, .int p0), (2, .int p1), (3, .int p2), (4, .int p3)] := hl
  refine lv_aload_n hC.x hC.b dX12_stirsBy_0 rfl (lv_at hl 0 rfl) ?_
  refine lv_iload_n hC.x hC.b dX12_stirsBy_1 rfl (lv_at hl 1 rfl) ?_
  refine lv_iload_n hC.x hC.b dX12_stirsBy_2 rfl (lv_at hl 2 rfl) ?_
  refine lv_iload_n hC.x hC.b dX12_stirsBy_3 rfl (lv_at hl 3 rfl) ?_
  obtain ⟨x2, m1, hf2, h⟩ := bd2_e h
  refine c_V1 (As := [.int p0, .int p1, .int p2]) (rest := []) (o := 0) (q := (RX12, TX12, 74)) hC hX hE.2.1 hF hH (c_X12_noise (l := l) hk hL hE hf2) kw380 kw381 kw382 kw5 kw383 a_X12_noise.1 a_X12_noise.2 (hL _ mM0) sM0 rfl rfl hl.1 (rmk hR (by decide) (by decide)) (Nat.le_of_ble_eq_true rfl) dX12_stirsBy_4 (fun H locs hH => ?_)
  refine lv_istore (lv' := [(5, .int x2), (0, .ref (ad 0)), (1, .int p0), (2, .int p1), (3, .int p2), (4, .int p3)]) hC.x hC.b dX12_stirsBy_7 hl (by decide) rfl (fun ls hl => ?_)
  refine lv_aload_n hC.x hC.b dX12_stirsBy_9 rfl (lv_at hl 1 rfl) ?_
  refine lv_iload_n hC.x hC.b dX12_stirsBy_10 rfl (lv_at hl 4 rfl) ?_
  obtain ⟨x4, m3, hf4, h⟩ := bd2_e h
  refine c_V1 (As := [.int p2]) (rest := []) (o := 0) (q := (RX12, TX12, 74)) hC hX hE.2.1 hF hH (c_X12_depthAt (l := l) hk hL hE hf4) kw707 kw708 kw709 kw5 kw710 a_X12_depthAt.1 a_X12_depthAt.2 (hL _ mM0) sM0 rfl rfl hl.1 (rmk hR (by decide) (by decide)) (Nat.le_of_ble_eq_true rfl) dX12_stirsBy_11 (fun H locs hH => ?_)
  refine lv_istore (lv' := [(6, .int x4), (5, .int x2), (0, .ref (ad 0)), (1, .int p0), (2, .int p1), (3, .int p2), (4, .int p3)]) hC.x hC.b dX12_stirsBy_14 hl (by decide) rfl (fun ls hl => ?_)
  refine lv_iload hC.x hC.b dX12_stirsBy_16 (lv_at hl 1 rfl) ?_
  refine lv_iload hC.x hC.b dX12_stirsBy_18 (lv_at hl 0 rfl) ?_
  refine b_ic_le (tgt := 27) hC dX12_stirsBy_20 (by decide) h (fun h => ?_) (fun h => ?_)
  · refine lv_iconst (v := 2) hC.x hC.b dX12_stirsBy_27 rfl ?_
    refine lv_iload hC.x hC.b dX12_stirsBy_28 (lv_at hl 1 rfl) ?_
    refine lv_imul hC.x hC.b dX12_stirsBy_30 ?_
    refine lv_iload hC.x hC.b dX12_stirsBy_31 (lv_at hl 0 rfl) ?_
    refine b_ic_le (tgt := 43) hC dX12_stirsBy_33 (by decide) h (fun h => ?_) (fun h => ?_)
    · refine lv_iload hC.x hC.b dX12_stirsBy_43 (lv_at hl 6 rfl) ?_
      rw [hQ]
      exact e_i hC hr hH h dX12_stirsBy_45
    · refine lv_iload hC.x hC.b dX12_stirsBy_36 (lv_at hl 6 rfl) ?_
      refine lv_iconst (v := 1) hC.x hC.b dX12_stirsBy_38 rfl ?_
      refine lv_iadd hC.x hC.b dX12_stirsBy_39 ?_
      refine lv_goto (tgt := 45) hC.x hC.b dX12_stirsBy_40 (by decide) ?_
      rw [hQ]
      exact e_i hC hr hH h dX12_stirsBy_45
  · refine lv_iconst (v := 3) hC.x hC.b dX12_stirsBy_23 rfl ?_
    refine lv_goto (tgt := 45) hC.x hC.b dX12_stirsBy_24 (by decide) ?_
    rw [hQ]
    exact e_i hC hr hH h dX12_stirsBy_45
theorem a_X12_timeOf : noMH yX12_timeOf.cls ∧ arity yX12_timeOf.desc 1 := by decide +kernel
theorem a_X12_areBeside : noMH yX12_areBeside.cls ∧ arity yX12_areBeside.desc 2 := by decide +kernel
def s_X12_treads_70 (p1 : Int32) (p2 : Int32) (x2 : Int32) (x6 : Int32) (x11 : Int32) (x4 : Int32) (j9 : gMem → Option gMem) (self12 : Int32 → gMem → Option gMem) (x13 : Int32) (m14 : gMem) : Option gMem := if (3 : Int32) ≤ x13 then ((j9 m14)) else jn ((fun (x16 : Int32) => if okI (((12 : Int32) * p1) + p2) 396 then bd (f_X12_has (gI m14 17 (ix (((12 : Int32) * p1) + p2))) x13) fun (x17 : Int32) => jn ((fun (m20 : gMem) => lt1 (x13 + (1 : Int32)) fun (x21 : Int32) => (self12 x21 m20)) : gMem → Option gMem) fun j18 => if x17 = 0 then ((j18 m14)) else if (3 : Int32) ≤ x16 then ((j18 m14)) else if okI (((12 : Int32) * x2) + x6) 396 then if okI (((12 : Int32) * x2) + x6) 396 then lt1 (gsI m14 17 (ix (((12 : Int32) * x2) + x6)) ((gI m14 17 (ix (((12 : Int32) * x2) + x6))) ||| ((1 : Int32) <<< (x16 &&& 31)))) fun (m19 : gMem) => (j18 m19) else none else none else none) : Int32 → Option gMem) fun j15 => if ((2 : Int32) * x11) ≤ x4 then ((j15 x13)) else (j15 (x13 + (1 : Int32)))
def s_X12_treads_23 (p2 : Int32) (p0 : Int32) (p3 : Int32) (x2 : Int32) (x4 : Int32) (p1 : Int32) (self5 : Int32 → gMem → Option gMem) (x6 : Int32) (m7 : gMem) : Option gMem := if (12 : Int32) ≤ x6 then (some m7) else bd (f_X12_areBeside p2 x6) fun (x8 : Int32) => jn ((fun (m22 : gMem) => lt1 (x6 + (1 : Int32)) fun (x23 : Int32) => (self5 x23 m22)) : gMem → Option gMem) fun j9 => if x8 = 0 then ((j9 m7)) else bd2 (f_X12_noise m7 p0 x6 (p3 + x2)) fun (x11 : Int32) (m10 : gMem) => if x11 ≤ x4 then (lq2 (s_X12_treads_70 p1 p2 x2 x6 x11 x4 j9) 1000 (0 : Int32) m10) else (j9 m10)
def f_X12_treads (mem : gMem) (p0 : Int32) (p1 : Int32) (p2 : Int32) (p3 : Int32) : Option gMem := bd (f_X12_timeOf mem p0) fun (x1 : Int32) => lt1 (p1 + x1) fun (x2 : Int32) => bd2 (f_X12_depthAt mem (p3 + x2)) fun (x4 : Int32) (m3 : gMem) => lq2 (s_X12_treads_23 p2 p0 p3 x2 x4 p1) 1000 (0 : Int32) m3
set_option maxRecDepth 100000 in
set_option maxHeartbeats 4000000 in
theorem c_X12_treads {l : Launch} {E : State → Prop} {D : va_G} {cy : Nat → ClassId} {ad : Nat → Nat} {L : List Nat} {mem : gMem} {p0 : Int32} {p1 : Int32} {p2 : Int32} {p3 : Int32} {memz : gMem} (hk : gOk ad L) (hL : ∀ o ∈ LM0, o ∈ L) (hE : gEok ad L E)  (h : f_X12_treads mem p0 p1 p2 p3 = some memz) : gMet l yX12_treads cX12_treads 11 none 5 127 E D cy shM ad L [.ref (ad 0), .int p0, .int p1, .int p2, .int p3] mem memz none := by
  refine g_go (own := RX12) (by decide +kernel) rfl hE (Nat.le_of_ble_eq_true rfl) ?_
  intro p e s m args below meth c R Q hargs hR hQ hEs hC hr hX H locs ls hH hl
  have hF := gF_of hk
  have hl : lv_has ls 11 [(0, .ref (ad 0)), (1, .int p0), (2, .int p1), (3, .int p2), (4, .int p3)] := hl
  refine lv_iload_n hC.x hC.b dX12_treads_0 rfl (lv_at hl 2 rfl) ?_
  refine lv_aload_n hC.x hC.b dX12_treads_1 rfl (lv_at hl 0 rfl) ?_
  refine lv_iload_n hC.x hC.b dX12_treads_2 rfl (lv_at hl 1 rfl) ?_
  obtain ⟨x1, hf1, h⟩ := bd_e h
  refine c_V1 (As := [.int p0]) (rest := [.int p1]) (o := 0) (q := (RX12, TX12, 74)) hC hX hE.2.1 hF hH (c_X12_timeOf (l := l) hk hL hE hf1) kw755 kw756 kw757 kw5 kw758 a_X12_timeOf.1 a_X12_timeOf.2 (hL _ mM0) sM0 rfl rfl hl.1 (rmk hR (by decide) (by decide)) (Nat.le_of_ble_eq_true rfl) dX12_treads_3 (fun H locs hH => ?_)
  refine lv_iadd hC.x hC.b dX12_treads_6 ?_
  refine n_i h (fun x2 h => ?_)
  refine lv_istore (lv' := [(5, .int x2), (0, .ref (ad 0)), (1, .int p0), (2, .int p1), (3, .int p2), (4, .int p3)]) hC.x hC.b dX12_treads_7 hl (by decide) rfl (fun ls hl => ?_)
  refine lv_aload_n hC.x hC.b dX12_treads_9 rfl (lv_at hl 1 rfl) ?_
  refine lv_iload hC.x hC.b dX12_treads_10 (lv_at hl 5 rfl) ?_
  refine lv_iload hC.x hC.b dX12_treads_12 (lv_at hl 0 rfl) ?_
  refine lv_iadd hC.x hC.b dX12_treads_14 ?_
  obtain ⟨x4, m3, hf4, h⟩ := bd2_e h
  refine c_V1 (As := [.int (p3 + x2)]) (rest := []) (o := 0) (q := (RX12, TX12, 74)) hC hX hE.2.1 hF hH (c_X12_depthAt (l := l) hk hL hE hf4) kw707 kw708 kw709 kw5 kw710 a_X12_depthAt.1 a_X12_depthAt.2 (hL _ mM0) sM0 rfl rfl hl.1 (rmk hR (by decide) (by decide)) (Nat.le_of_ble_eq_true rfl) dX12_treads_15 (fun H locs hH => ?_)
  refine lv_istore (lv' := [(6, .int x4), (5, .int x2), (0, .ref (ad 0)), (1, .int p0), (2, .int p1), (3, .int p2), (4, .int p3)]) hC.x hC.b dX12_treads_18 hl (by decide) rfl (fun ls hl => ?_)
  refine lv_iconst (v := 0) hC.x hC.b dX12_treads_20 rfl ?_
  refine lv_istore (lv' := [(7, .int (0 : Int32)), (6, .int x4), (5, .int x2), (0, .ref (ad 0)), (1, .int p0), (2, .int p1), (3, .int p2), (4, .int p3)]) hC.x hC.b dX12_treads_21 hl (by decide) rfl (fun ls hl => ?_)
  have hl5 : ∀ (n : Nat) (x6 : Int32) (m7 : gMem) (H : Heap) (locs : List Loc) (ls : Array Slot), lq2 (s_X12_treads_23 p2 p0 p3 x2 x4 p1) n x6 m7 = some memz → gH D cy shM ad L (gA ad L) s.heap m7 H locs → lv_has ls 11 [(0, .ref (ad 0)), (1, .int p0), (2, .int p1), (3, .int p2), (4, .int p3), (5, .int x2), (6, .int x4), (7, .int x6)] → W p l e R s m args below meth c H locs 0 0 Q (F0 m 23 ls []) := by
    intro n
    induction n with
    | zero => intro x6 m7 H locs ls h _ _; exact lq2_0 h
    | succ n ih5 =>
      intro x6 m7 H locs ls h hH hl
      obtain ⟨self5, es5, h⟩ := lq2_s h
      refine lv_iload hC.x hC.b dX12_treads_23 (lv_at hl 7 rfl) ?_
      refine lv_bipush (v := 12) hC.x hC.b dX12_treads_25 rfl ?_
      refine b_ic_ge (tgt := 154) hC dX12_treads_27 (by decide) h (fun h => ?_) (fun h => ?_)
      · rw [hQ]
        exact e_v hC hr hH h dX12_treads_154
      · refine lv_aload_n hC.x hC.b dX12_treads_30 rfl (lv_at hl 0 rfl) ?_
        refine lv_iload_n hC.x hC.b dX12_treads_31 rfl (lv_at hl 3 rfl) ?_
        refine lv_iload hC.x hC.b dX12_treads_32 (lv_at hl 7 rfl) ?_
        obtain ⟨x8, hf8, h⟩ := bd_e h
        refine c_V1 (As := [.int p2, .int x6]) (rest := []) (o := 0) (q := (RX12, TX12, 74)) hC hX hE.2.1 hF hH (c_X12_areBeside (l := l) hk hL hE hf8) kw747 kw748 kw749 kw5 kw750 a_X12_areBeside.1 a_X12_areBeside.2 (hL _ mM0) sM0 rfl rfl hl.1 (rmk hR (by decide) (by decide)) (Nat.le_of_ble_eq_true rfl) dX12_treads_34 (fun H locs hH => ?_)
        obtain ⟨j9, ej9, h⟩ := jn_e h
        have hj9 : ∀ (m22 : gMem) (H : Heap) (locs : List Loc) (ls : Array Slot), (j9 m22) = some memz → gH D cy shM ad L (gA ad L) s.heap m22 H locs → lv_has ls 11 [(0, .ref (ad 0)), (1, .int p0), (2, .int p1), (3, .int p2), (4, .int p3), (5, .int x2), (6, .int x4), (7, .int x6)] → W p l e R s m args below meth c H locs 0 0 Q (F0 m 148 ls []) := by
          intro m22 H locs ls h hH hl
          have h := ap1 ej9 h
          refine i_inc (lv' := fun x23 => [(7, .int x23), (0, .ref (ad 0)), (1, .int p0), (2, .int p1), (3, .int p2), (4, .int p3), (5, .int x2), (6, .int x4)]) hC dX12_treads_148 hl (k := 7) rfl (by decide) (fun _ => rfl) (z := 1) rfl h (fun x23 ls h hl => ?_)
          refine lv_goto (tgt := 23) hC.x hC.b dX12_treads_151 (by decide) ?_
          exact ih5 x23 m22 H locs ls (ap2 es5 h) hH (lv_sub hl [1, 2, 3, 4, 5, 6, 7, 0] rfl)
        clear ej9
        refine b_if_ne (tgt := 43) hC dX12_treads_37 (by decide) h (fun h => ?_) (fun h => ?_)
        · refine lv_aload_n hC.x hC.b dX12_treads_43 rfl (lv_at hl 0 rfl) ?_
          refine lv_iload_n hC.x hC.b dX12_treads_44 rfl (lv_at hl 1 rfl) ?_
          refine lv_iload hC.x hC.b dX12_treads_45 (lv_at hl 7 rfl) ?_
          refine lv_iload hC.x hC.b dX12_treads_47 (lv_at hl 4 rfl) ?_
          refine lv_iload hC.x hC.b dX12_treads_49 (lv_at hl 5 rfl) ?_
          refine lv_iadd hC.x hC.b dX12_treads_51 ?_
          obtain ⟨x11, m10, hf11, h⟩ := bd2_e h
          refine c_V1 (As := [.int p0, .int x6, .int (p3 + x2)]) (rest := []) (o := 0) (q := (RX12, TX12, 74)) hC hX hE.2.1 hF hH (c_X12_noise (l := l) hk hL hE hf11) kw380 kw381 kw382 kw5 kw383 a_X12_noise.1 a_X12_noise.2 (hL _ mM0) sM0 rfl rfl hl.1 (rmk hR (by decide) (by decide)) (Nat.le_of_ble_eq_true rfl) dX12_treads_52 (fun H locs hH => ?_)
          refine lv_istore (lv' := [(8, .int x11), (0, .ref (ad 0)), (1, .int p0), (2, .int p1), (3, .int p2), (4, .int p3), (5, .int x2), (6, .int x4), (7, .int x6)]) hC.x hC.b dX12_treads_55 hl (by decide) rfl (fun ls hl => ?_)
          refine lv_iload hC.x hC.b dX12_treads_57 (lv_at hl 0 rfl) ?_
          refine lv_iload hC.x hC.b dX12_treads_59 (lv_at hl 7 rfl) ?_
          refine b_ic_le (tgt := 67) hC dX12_treads_61 (by decide) h (fun h => ?_) (fun h => ?_)
          · refine lv_iconst (v := 0) hC.x hC.b dX12_treads_67 rfl ?_
            refine lv_istore (lv' := [(9, .int (0 : Int32)), (8, .int x11), (0, .ref (ad 0)), (1, .int p0), (2, .int p1), (3, .int p2), (4, .int p3), (5, .int x2), (6, .int x4), (7, .int x6)]) hC.x hC.b dX12_treads_68 hl (by decide) rfl (fun ls hl => ?_)
            have hl12 : ∀ (n : Nat) (x13 : Int32) (m14 : gMem) (H : Heap) (locs : List Loc) (ls : Array Slot), lq2 (s_X12_treads_70 p1 p2 x2 x6 x11 x4 j9) n x13 m14 = some memz → gH D cy shM ad L (gA ad L) s.heap m14 H locs → lv_has ls 11 [(0, .ref (ad 0)), (1, .int p0), (2, .int p1), (3, .int p2), (4, .int p3), (5, .int x2), (6, .int x4), (7, .int x6), (8, .int x11), (9, .int x13)] → W p l e R s m args below meth c H locs 0 0 Q (F0 m 70 ls []) := by
              intro n
              induction n with
              | zero => intro x13 m14 H locs ls h _ _; exact lq2_0 h
              | succ n ih12 =>
                intro x13 m14 H locs ls h hH hl
                obtain ⟨self12, es12, h⟩ := lq2_s h
                refine lv_iload hC.x hC.b dX12_treads_70 (lv_at hl 9 rfl) ?_
                refine lv_iconst (v := 3) hC.x hC.b dX12_treads_72 rfl ?_
                refine b_ic_ge (tgt := 148) hC dX12_treads_73 (by decide) h (fun h => ?_) (fun h => ?_)
                · exact hj9 m14 H locs ls h hH (lv_sub hl [0, 1, 2, 3, 4, 5, 6, 7] rfl)
                · refine lv_iconst (v := 2) hC.x hC.b dX12_treads_76 rfl ?_
                  refine lv_iload hC.x hC.b dX12_treads_77 (lv_at hl 8 rfl) ?_
                  refine lv_imul hC.x hC.b dX12_treads_79 ?_
                  refine lv_iload hC.x hC.b dX12_treads_80 (lv_at hl 6 rfl) ?_
                  obtain ⟨j15, ej15, h⟩ := jn_e h
                  have hj15 : ∀ (x16 : Int32) (H : Heap) (locs : List Loc) (ls : Array Slot), (j15 x16) = some memz → gH D cy shM ad L (gA ad L) s.heap m14 H locs → lv_has ls 11 [(0, .ref (ad 0)), (1, .int p0), (2, .int p1), (3, .int p2), (4, .int p3), (5, .int x2), (6, .int x4), (7, .int x6), (8, .int x11), (9, .int x13)] → W p l e R s m args below meth c H locs 0 0 Q (F0 m 94 ls [.int x16]) := by
                    intro x16 H locs ls h hH hl
                    have h := ap1 ej15 h
                    refine lv_istore (lv' := [(10, .int x16), (0, .ref (ad 0)), (1, .int p0), (2, .int p1), (3, .int p2), (4, .int p3), (5, .int x2), (6, .int x4), (7, .int x6), (8, .int x11), (9, .int x13)]) hC.x hC.b dX12_treads_94 hl (by decide) rfl (fun ls hl => ?_)
                    refine lv_aload_n hC.x hC.b dX12_treads_96 rfl (lv_at hl 1 rfl) ?_
                    refine lv_aload_n hC.x hC.b dX12_treads_97 rfl (lv_at hl 1 rfl) ?_
                    refine r_getc (z := 17) hC hH fl_X12_118_12 (hL _ mM0) sM0 rfl dX12_treads_98 ?_
                    refine lv_bipush (v := 12) hC.x hC.b dX12_treads_101 rfl ?_
                    refine lv_iload_n hC.x hC.b dX12_treads_103 rfl (lv_at hl 3 rfl) ?_
                    refine lv_imul hC.x hC.b dX12_treads_104 ?_
                    refine lv_iload_n hC.x hC.b dX12_treads_105 rfl (lv_at hl 4 rfl) ?_
                    refine lv_iadd hC.x hC.b dX12_treads_106 ?_
                    refine r_iald hC hH (hL _ mM17) sM17 h dX12_treads_107 (fun h => ?_)
                    refine lv_iload hC.x hC.b dX12_treads_108 (lv_at hl 10 rfl) ?_
                    obtain ⟨x17, hf17, h⟩ := bd_e h
                    refine c_V1 (As := [.int (gI m14 17 (ix (((12 : Int32) * p1) + p2))), .int x13]) (rest := []) (o := 0) (q := (RX12, TX12, 74)) hC hX hE.2.1 hF hH (c_X12_has (l := l) hk hL hE hf17) kw388 kw389 kw390 kw5 kw391 a_X12_has.1 a_X12_has.2 (hL _ mM0) sM0 rfl rfl hl.1 (rmk hR (by decide) (by decide)) (Nat.le_of_ble_eq_true rfl) dX12_treads_110 (fun H locs hH => ?_)
                    obtain ⟨j18, ej18, h⟩ := jn_e h
                    have hj18 : ∀ (m20 : gMem) (H : Heap) (locs : List Loc) (ls : Array Slot), (j18 m20) = some memz → gH D cy shM ad L (gA ad L) s.heap m20 H locs → lv_has ls 11 [(0, .ref (ad 0)), (1, .int p0), (2, .int p1), (3, .int p2), (4, .int p3), (5, .int x2), (6, .int x4), (7, .int x6), (8, .int x11), (9, .int x13)] → W p l e R s m args below meth c H locs 0 0 Q (F0 m 142 ls []) := by
                      intro m20 H locs ls h hH hl
                      have h := ap1 ej18 h
                      refine i_inc (lv' := fun x21 => [(9, .int x21), (0, .ref (ad 0)), (1, .int p0), (2, .int p1), (3, .int p2), (4, .int p3), (5, .int x2), (6, .int x4), (7, .int x6), (8, .int x11)]) hC dX12_treads_142 hl (k := 9) rfl (by decide) (fun _ => rfl) (z := 1) rfl h (fun x21 ls h hl => ?_)
                      refine lv_goto (tgt := 70) hC.x hC.b dX12_treads_145 (by decide) ?_
                      exact ih12 x21 m20 H locs ls (ap2 es12 h) hH (lv_sub hl [1, 2, 3, 4, 5, 6, 7, 8, 9, 0] rfl)
                    clear ej18
                    refine b_if_eq (tgt := 142) hC dX12_treads_113 (by decide) h (fun h => ?_) (fun h => ?_)
                    · exact hj18 m14 H locs ls h hH (lv_sub hl [1, 2, 3, 4, 5, 6, 7, 8, 9, 10] rfl)
                    · refine lv_iload hC.x hC.b dX12_treads_116 (lv_at hl 0 rfl) ?_
                      refine lv_iconst (v := 3) hC.x hC.b dX12_treads_118 rfl ?_
                      refine b_ic_ge (tgt := 142) hC dX12_treads_119 (by decide) h (fun h => ?_) (fun h => ?_)
                      · exact hj18 m14 H locs ls h hH (lv_sub hl [1, 2, 3, 4, 5, 6, 7, 8, 9, 10] rfl)
                      · refine lv_aload_n hC.x hC.b dX12_treads_122 rfl (lv_at hl 1 rfl) ?_
                        refine r_getc (z := 17) hC hH fl_X12_118_12 (hL _ mM0) sM0 rfl dX12_treads_123 ?_
                        refine lv_bipush (v := 12) hC.x hC.b dX12_treads_126 rfl ?_
                        refine lv_iload hC.x hC.b dX12_treads_128 (lv_at hl 6 rfl) ?_
                        refine lv_imul hC.x hC.b dX12_treads_130 ?_
                        refine lv_iload hC.x hC.b dX12_treads_131 (lv_at hl 8 rfl) ?_
                        refine lv_iadd hC.x hC.b dX12_treads_133 ?_
                        refine lv_dup2_11 hC.x hC.b dX12_treads_134 rfl rfl ?_
                        refine r_iald hC hH (hL _ mM17) sM17 h dX12_treads_135 (fun h => ?_)
                        refine lv_iconst (v := 1) hC.x hC.b dX12_treads_136 rfl ?_
                        refine lv_iload hC.x hC.b dX12_treads_137 (lv_at hl 0 rfl) ?_
                        refine lv_ishl hC.x hC.b dX12_treads_139 ?_
                        refine lv_ior hC.x hC.b dX12_treads_140 ?_
                        refine r_iast hC hF hH (hL _ mM17) sM17 h dX12_treads_141 (fun m19 H locs h hH => ?_)
                        exact hj18 m19 H locs ls h hH (lv_sub hl [1, 2, 3, 4, 5, 6, 7, 8, 9, 10] rfl)
                  clear ej15
                  refine b_ic_le (tgt := 92) hC dX12_treads_82 (by decide) h (fun h => ?_) (fun h => ?_)
                  · refine lv_iload hC.x hC.b dX12_treads_92 (lv_at hl 9 rfl) ?_
                    exact hj15 x13 H locs ls h hH (lv_sub hl [0, 1, 2, 3, 4, 5, 6, 7, 8, 9] rfl)
                  · refine lv_iload hC.x hC.b dX12_treads_85 (lv_at hl 9 rfl) ?_
                    refine lv_iconst (v := 1) hC.x hC.b dX12_treads_87 rfl ?_
                    refine lv_iadd hC.x hC.b dX12_treads_88 ?_
                    refine lv_goto (tgt := 94) hC.x hC.b dX12_treads_89 (by decide) ?_
                    exact hj15 (x13 + (1 : Int32)) H locs ls h hH (lv_sub hl [0, 1, 2, 3, 4, 5, 6, 7, 8, 9] rfl)
            exact hl12 _ (0 : Int32) m10 H locs ls h hH (lv_sub hl [2, 3, 4, 5, 6, 7, 8, 9, 1, 0] rfl)
          · refine lv_goto (tgt := 148) hC.x hC.b dX12_treads_64 (by decide) ?_
            exact hj9 m10 H locs ls h hH (lv_sub hl [1, 2, 3, 4, 5, 6, 7, 8] rfl)
        · refine lv_goto (tgt := 148) hC.x hC.b dX12_treads_40 (by decide) ?_
          exact hj9 m7 H locs ls h hH (lv_sub hl [0, 1, 2, 3, 4, 5, 6, 7] rfl)
  exact hl5 _ (0 : Int32) m3 H locs ls h hH (lv_sub hl [3, 4, 5, 6, 7, 2, 1, 0] rfl)
theorem fl_X12_124_12 : gFl RX12 124 12 37 := ⟨RX12, TX12, 74, "OnTiptoeModel", rfl, inW12, by decide, kw114, Or.inl rfl⟩
theorem a_X12_isOnTrail : noMH yX12_isOnTrail.cls ∧ arity yX12_isOnTrail.desc 2 := by decide +kernel
theorem a_X12_found : noMH yX12_found.cls ∧ arity yX12_found.desc 1 := by decide +kernel
def s_X12_layQuiet_57 (p0 : Int32) (self6 : Int32 → gMem → Option gMem) (x7 : Int32) (m8 : gMem) : Option gMem := if x7 < 0 then (some m8) else if okI x7 9 then lt1 (gI m8 19 (ix x7)) fun (x9 : Int32) => if okI x7 9 then if okI x7 9 then lt1 (gsI m8 19 (ix x7) ((gI m8 19 (ix x7)) + (1 : Int32))) fun (m10 : gMem) => if x9 ≤ (11 : Int32) then (if okI x7 9 then bd (f_X12_areBeside (gI m10 18 (ix x7)) x9) fun (x11 : Int32) => if x11 = 0 then ((self6 x7 m10)) else bd (f_X12_isOnTrail m10 x9 x7) fun (x12 : Int32) => if x12 = 0 then (if okI x7 9 then bd (f_X12_timeOf m10 p0) fun (x13 : Int32) => bd2 (f_X12_noise m10 p0 x9 ((gI m10 0 1) + ((x7 + (1 : Int32)) * x13))) fun (x15 : Int32) (m14 : gMem) => if okI (x7 + (1 : Int32)) 9 then lt1 (gsI m14 20 (ix (x7 + (1 : Int32))) ((gI m10 20 (ix x7)) + x15)) fun (m16 : gMem) => if okI (x7 + (1 : Int32)) 9 then lt1 (gsI m16 18 (ix (x7 + (1 : Int32))) x9) fun (m17 : gMem) => jn ((fun (x22 : Int32) (m23 : gMem) => (self6 x22 m23)) : Int32 → gMem → Option gMem) fun j18 => if x9 = (gI m17 0 4) then (bd (f_X12_found m17 (x7 + (1 : Int32))) fun (m21 : gMem) => (j18 x7 m21)) else if (7 : Int32) ≤ x7 then ((j18 x7 m17)) else lt1 (x7 + (1 : Int32)) fun (x19 : Int32) => if okI x19 9 then lt1 (gsI m17 19 (ix x19) (0 : Int32)) fun (m20 : gMem) => (j18 x19 m20) else none else none else none else none) else (self6 x7 m10) else none) else lt1 (x7 + (-1 : Int32)) fun (x24 : Int32) => (self6 x24 m10) else none else none else none
def f_X12_layQuiet (mem : gMem) (p0 : Int32) : Option gMem := lt1 (gsI mem 0 39 (-1 : Int32)) fun (m1 : gMem) => lt1 (gsI m1 0 40 (0 : Int32)) fun (m2 : gMem) => if okI p0 4 then if okI (0 : Int32) 9 then lt1 (gsI m2 18 (ix (0 : Int32)) (gI m2 4 (ix p0))) fun (m3 : gMem) => if okI (0 : Int32) 9 then lt1 (gsI m3 20 (ix (0 : Int32)) (0 : Int32)) fun (m4 : gMem) => if okI (0 : Int32) 9 then lt1 (gsI m4 19 (ix (0 : Int32)) (0 : Int32)) fun (m5 : gMem) => if okI p0 4 then if (gI m5 4 (ix p0)) = (gI m5 0 4) then (bd (f_X12_found m5 (0 : Int32)) fun (m25 : gMem) => some m25) else lq2 (s_X12_layQuiet_57 p0) 1000000 (0 : Int32) m5 else none else none else none else none else none
set_option maxRecDepth 100000 in
set_option maxHeartbeats 4000000 in
theorem c_X12_layQuiet {l : Launch} {E : State → Prop} {D : va_G} {cy : Nat → ClassId} {ad : Nat → Nat} {L : List Nat} {mem : gMem} {p0 : Int32} {memz : gMem} (hk : gOk ad L) (hL : ∀ o ∈ LM0, o ∈ L) (hE : gEok ad L E)  (h : f_X12_layQuiet mem p0 = some memz) : gMet l yX12_layQuiet cX12_layQuiet 4 none 5 127 E D cy shM ad L [.ref (ad 0), .int p0] mem memz none := by
  refine g_go (own := RX12) (by decide +kernel) rfl hE (Nat.le_of_ble_eq_true rfl) ?_
  intro p e s m args below meth c R Q hargs hR hQ hEs hC hr hX H locs ls hH hl
  have hF := gF_of hk
  have hl : lv_has ls 4 [(0, .ref (ad 0)), (1, .int p0)] := hl
  refine lv_aload_n hC.x hC.b dX12_layQuiet_0 rfl (lv_at hl 0 rfl) ?_
  refine lv_iconst (v := -1) hC.x hC.b dX12_layQuiet_1 rfl ?_
  refine r_puti hC hF hH pl_X12_130_12 (hL _ mM0) sM0 rfl h dX12_layQuiet_2 (fun m1 H locs h hH => ?_)
  refine lv_aload_n hC.x hC.b dX12_layQuiet_5 rfl (lv_at hl 0 rfl) ?_
  refine lv_iconst (v := 0) hC.x hC.b dX12_layQuiet_6 rfl ?_
  refine r_puti hC hF hH pl_X12_133_12 (hL _ mM0) sM0 rfl h dX12_layQuiet_7 (fun m2 H locs h hH => ?_)
  refine lv_aload_n hC.x hC.b dX12_layQuiet_10 rfl (lv_at hl 0 rfl) ?_
  refine r_getc (z := 18) hC hH fl_X12_121_12 (hL _ mM0) sM0 rfl dX12_layQuiet_11 ?_
  refine lv_iconst (v := 0) hC.x hC.b dX12_layQuiet_14 rfl ?_
  refine lv_aload_n hC.x hC.b dX12_layQuiet_15 rfl (lv_at hl 0 rfl) ?_
  refine r_getc (z := 4) hC hH fl_X12_39_12 (hL _ mM0) sM0 rfl dX12_layQuiet_16 ?_
  refine lv_iload_n hC.x hC.b dX12_layQuiet_19 rfl (lv_at hl 1 rfl) ?_
  refine r_iald hC hH (hL _ mM4) sM4 h dX12_layQuiet_20 (fun h => ?_)
  refine r_iast hC hF hH (hL _ mM18) sM18 h dX12_layQuiet_21 (fun m3 H locs h hH => ?_)
  refine lv_aload_n hC.x hC.b dX12_layQuiet_22 rfl (lv_at hl 0 rfl) ?_
  refine r_getc (z := 20) hC hH fl_X12_127_12 (hL _ mM0) sM0 rfl dX12_layQuiet_23 ?_
  refine lv_iconst (v := 0) hC.x hC.b dX12_layQuiet_26 rfl ?_
  refine lv_iconst (v := 0) hC.x hC.b dX12_layQuiet_27 rfl ?_
  refine r_iast hC hF hH (hL _ mM20) sM20 h dX12_layQuiet_28 (fun m4 H locs h hH => ?_)
  refine lv_aload_n hC.x hC.b dX12_layQuiet_29 rfl (lv_at hl 0 rfl) ?_
  refine r_getc (z := 19) hC hH fl_X12_124_12 (hL _ mM0) sM0 rfl dX12_layQuiet_30 ?_
  refine lv_iconst (v := 0) hC.x hC.b dX12_layQuiet_33 rfl ?_
  refine lv_iconst (v := 0) hC.x hC.b dX12_layQuiet_34 rfl ?_
  refine r_iast hC hF hH (hL _ mM19) sM19 h dX12_layQuiet_35 (fun m5 H locs h hH => ?_)
  refine lv_iconst (v := 0) hC.x hC.b dX12_layQuiet_36 rfl ?_
  refine lv_istore_n (lv' := [(2, .int (0 : Int32)), (0, .ref (ad 0)), (1, .int p0)]) hC.x hC.b dX12_layQuiet_37 rfl hl (by decide) rfl (fun ls hl => ?_)
  refine lv_aload_n hC.x hC.b dX12_layQuiet_38 rfl (lv_at hl 1 rfl) ?_
  refine r_getc (z := 4) hC hH fl_X12_39_12 (hL _ mM0) sM0 rfl dX12_layQuiet_39 ?_
  refine lv_iload_n hC.x hC.b dX12_layQuiet_42 rfl (lv_at hl 2 rfl) ?_
  refine r_iald hC hH (hL _ mM4) sM4 h dX12_layQuiet_43 (fun h => ?_)
  refine lv_aload_n hC.x hC.b dX12_layQuiet_44 rfl (lv_at hl 1 rfl) ?_
  refine r_geti hC hH fl_X12_22_12 (hL _ mM0) sM0 rfl dX12_layQuiet_45 ?_
  refine b_ic_ne (tgt := 57) hC dX12_layQuiet_48 (by decide) h (fun h => ?_) (fun h => ?_)
  · have hl6 : ∀ (n : Nat) (x7 : Int32) (m8 : gMem) (H : Heap) (locs : List Loc) (ls : Array Slot), lq2 (s_X12_layQuiet_57 p0) n x7 m8 = some memz → gH D cy shM ad L (gA ad L) s.heap m8 H locs → lv_has ls 4 [(0, .ref (ad 0)), (1, .int p0), (2, .int x7)] → W p l e R s m args below meth c H locs 0 0 Q (F0 m 57 ls []) := by
      intro n
      induction n with
      | zero => intro x7 m8 H locs ls h _ _; exact lq2_0 h
      | succ n ih6 =>
        intro x7 m8 H locs ls h hH hl
        obtain ⟨self6, es6, h⟩ := lq2_s h
        refine lv_iload_n hC.x hC.b dX12_layQuiet_57 rfl (lv_at hl 2 rfl) ?_
        refine b_if_lt (tgt := 197) hC dX12_layQuiet_58 (by decide) h (fun h => ?_) (fun h => ?_)
        · rw [hQ]
          exact e_v hC hr hH h dX12_layQuiet_197
        · refine lv_aload_n hC.x hC.b dX12_layQuiet_61 rfl (lv_at hl 0 rfl) ?_
          refine r_getc (z := 19) hC hH fl_X12_124_12 (hL _ mM0) sM0 rfl dX12_layQuiet_62 ?_
          refine lv_iload_n hC.x hC.b dX12_layQuiet_65 rfl (lv_at hl 2 rfl) ?_
          refine r_iald hC hH (hL _ mM19) sM19 h dX12_layQuiet_66 (fun h => ?_)
          refine n_i h (fun x9 h => ?_)
          refine lv_istore_n (lv' := [(3, .int x9), (0, .ref (ad 0)), (1, .int p0), (2, .int x7)]) hC.x hC.b dX12_layQuiet_67 rfl hl (by decide) rfl (fun ls hl => ?_)
          refine lv_aload_n hC.x hC.b dX12_layQuiet_68 rfl (lv_at hl 1 rfl) ?_
          refine r_getc (z := 19) hC hH fl_X12_124_12 (hL _ mM0) sM0 rfl dX12_layQuiet_69 ?_
          refine lv_iload_n hC.x hC.b dX12_layQuiet_72 rfl (lv_at hl 3 rfl) ?_
          refine lv_dup2_11 hC.x hC.b dX12_layQuiet_73 rfl rfl ?_
          refine r_iald hC hH (hL _ mM19) sM19 h dX12_layQuiet_74 (fun h => ?_)
          refine lv_iconst (v := 1) hC.x hC.b dX12_layQuiet_75 rfl ?_
          refine lv_iadd hC.x hC.b dX12_layQuiet_76 ?_
          refine r_iast hC hF hH (hL _ mM19) sM19 h dX12_layQuiet_77 (fun m10 H locs h hH => ?_)
          refine lv_iload_n hC.x hC.b dX12_layQuiet_78 rfl (lv_at hl 0 rfl) ?_
          refine lv_bipush (v := 11) hC.x hC.b dX12_layQuiet_79 rfl ?_
          refine b_ic_le (tgt := 90) hC dX12_layQuiet_81 (by decide) h (fun h => ?_) (fun h => ?_)
          · refine lv_aload_n hC.x hC.b dX12_layQuiet_90 rfl (lv_at hl 1 rfl) ?_
            refine lv_aload_n hC.x hC.b dX12_layQuiet_91 rfl (lv_at hl 1 rfl) ?_
            refine r_getc (z := 18) hC hH fl_X12_121_12 (hL _ mM0) sM0 rfl dX12_layQuiet_92 ?_
            refine lv_iload_n hC.x hC.b dX12_layQuiet_95 rfl (lv_at hl 3 rfl) ?_
            refine r_iald hC hH (hL _ mM18) sM18 h dX12_layQuiet_96 (fun h => ?_)
            refine lv_iload_n hC.x hC.b dX12_layQuiet_97 rfl (lv_at hl 0 rfl) ?_
            obtain ⟨x11, hf11, h⟩ := bd_e h
            refine c_V1 (As := [.int (gI m10 18 (ix x7)), .int x9]) (rest := []) (o := 0) (q := (RX12, TX12, 74)) hC hX hE.2.1 hF hH (c_X12_areBeside (l := l) hk hL hE hf11) kw747 kw748 kw749 kw5 kw750 a_X12_areBeside.1 a_X12_areBeside.2 (hL _ mM0) sM0 rfl rfl hl.1 (rmk hR (by decide) (by decide)) (Nat.le_of_ble_eq_true rfl) dX12_layQuiet_98 (fun H locs hH => ?_)
            refine b_if_eq (tgt := 57) hC dX12_layQuiet_101 (by decide) h (fun h => ?_) (fun h => ?_)
            · exact ih6 x7 m10 H locs ls (ap2 es6 h) hH (lv_sub hl [1, 2, 3] rfl)
            · refine lv_aload_n hC.x hC.b dX12_layQuiet_104 rfl (lv_at hl 1 rfl) ?_
              refine lv_iload_n hC.x hC.b dX12_layQuiet_105 rfl (lv_at hl 0 rfl) ?_
              refine lv_iload_n hC.x hC.b dX12_layQuiet_106 rfl (lv_at hl 3 rfl) ?_
              obtain ⟨x12, hf12, h⟩ := bd_e h
              refine c_V1 (As := [.int x9, .int x7]) (rest := []) (o := 0) (q := (RX12, TX12, 74)) hC hX hE.2.1 hF hH (c_X12_isOnTrail (l := l) hk hL hE hf12) kw914 kw915 kw916 kw5 kw917 a_X12_isOnTrail.1 a_X12_isOnTrail.2 (hL _ mM0) sM0 rfl rfl hl.1 (rmk hR (by decide) (by decide)) (Nat.le_of_ble_eq_true rfl) dX12_layQuiet_107 (fun H locs hH => ?_)
              refine b_if_eq (tgt := 116) hC dX12_layQuiet_110 (by decide) h (fun h => ?_) (fun h => ?_)
              · refine lv_aload_n hC.x hC.b dX12_layQuiet_116 rfl (lv_at hl 1 rfl) ?_
                refine r_getc (z := 20) hC hH fl_X12_127_12 (hL _ mM0) sM0 rfl dX12_layQuiet_117 ?_
                refine lv_iload_n hC.x hC.b dX12_layQuiet_120 rfl (lv_at hl 3 rfl) ?_
                refine lv_iconst (v := 1) hC.x hC.b dX12_layQuiet_121 rfl ?_
                refine lv_iadd hC.x hC.b dX12_layQuiet_122 ?_
                refine lv_aload_n hC.x hC.b dX12_layQuiet_123 rfl (lv_at hl 1 rfl) ?_
                refine r_getc (z := 20) hC hH fl_X12_127_12 (hL _ mM0) sM0 rfl dX12_layQuiet_124 ?_
                refine lv_iload_n hC.x hC.b dX12_layQuiet_127 rfl (lv_at hl 3 rfl) ?_
                refine r_iald hC hH (hL _ mM20) sM20 h dX12_layQuiet_128 (fun h => ?_)
                refine lv_aload_n hC.x hC.b dX12_layQuiet_129 rfl (lv_at hl 1 rfl) ?_
                refine lv_iload_n hC.x hC.b dX12_layQuiet_130 rfl (lv_at hl 2 rfl) ?_
                refine lv_iload_n hC.x hC.b dX12_layQuiet_131 rfl (lv_at hl 0 rfl) ?_
                refine lv_aload_n hC.x hC.b dX12_layQuiet_132 rfl (lv_at hl 1 rfl) ?_
                refine r_geti hC hH fl_X12_13_12 (hL _ mM0) sM0 rfl dX12_layQuiet_133 ?_
                refine lv_iload_n hC.x hC.b dX12_layQuiet_136 rfl (lv_at hl 3 rfl) ?_
                refine lv_iconst (v := 1) hC.x hC.b dX12_layQuiet_137 rfl ?_
                refine lv_iadd hC.x hC.b dX12_layQuiet_138 ?_
                refine lv_aload_n hC.x hC.b dX12_layQuiet_139 rfl (lv_at hl 1 rfl) ?_
                refine lv_iload_n hC.x hC.b dX12_layQuiet_140 rfl (lv_at hl 2 rfl) ?_
                obtain ⟨x13, hf13, h⟩ := bd_e h
                refine c_V1 (As := [.int p0]) (rest := [.int (x7 + (1 : Int32)), .int (gI m10 0 1), .int x9, .int p0, .ref (ad 0), .int (gI m10 20 (ix x7)), .int (x7 + (1 : Int32)), .ref (ad 20)]) (o := 0) (q := (RX12, TX12, 74)) hC hX hE.2.1 hF hH (c_X12_timeOf (l := l) hk hL hE hf13) kw755 kw756 kw757 kw5 kw758 a_X12_timeOf.1 a_X12_timeOf.2 (hL _ mM0) sM0 rfl rfl hl.1 (rmk hR (by decide) (by decide)) (Nat.le_of_ble_eq_true rfl) dX12_layQuiet_141 (fun H locs hH => ?_)
                refine lv_imul hC.x hC.b dX12_layQuiet_144 ?_
                refine lv_iadd hC.x hC.b dX12_layQuiet_145 ?_
                obtain ⟨x15, m14, hf15, h⟩ := bd2_e h
                refine c_V1 (As := [.int p0, .int x9, .int ((gI m10 0 1) + ((x7 + (1 : Int32)) * x13))]) (rest := [.int (gI m10 20 (ix x7)), .int (x7 + (1 : Int32)), .ref (ad 20)]) (o := 0) (q := (RX12, TX12, 74)) hC hX hE.2.1 hF hH (c_X12_noise (l := l) hk hL hE hf15) kw380 kw381 kw382 kw5 kw383 a_X12_noise.1 a_X12_noise.2 (hL _ mM0) sM0 rfl rfl hl.1 (rmk hR (by decide) (by decide)) (Nat.le_of_ble_eq_true rfl) dX12_layQuiet_146 (fun H locs hH => ?_)
                refine lv_iadd hC.x hC.b dX12_layQuiet_149 ?_
                refine r_iast hC hF hH (hL _ mM20) sM20 h dX12_layQuiet_150 (fun m16 H locs h hH => ?_)
                refine lv_aload_n hC.x hC.b dX12_layQuiet_151 rfl (lv_at hl 1 rfl) ?_
                refine r_getc (z := 18) hC hH fl_X12_121_12 (hL _ mM0) sM0 rfl dX12_layQuiet_152 ?_
                refine lv_iload_n hC.x hC.b dX12_layQuiet_155 rfl (lv_at hl 3 rfl) ?_
                refine lv_iconst (v := 1) hC.x hC.b dX12_layQuiet_156 rfl ?_
                refine lv_iadd hC.x hC.b dX12_layQuiet_157 ?_
                refine lv_iload_n hC.x hC.b dX12_layQuiet_158 rfl (lv_at hl 0 rfl) ?_
                refine r_iast hC hF hH (hL _ mM18) sM18 h dX12_layQuiet_159 (fun m17 H locs h hH => ?_)
                refine lv_iload_n hC.x hC.b dX12_layQuiet_160 rfl (lv_at hl 0 rfl) ?_
                refine lv_aload_n hC.x hC.b dX12_layQuiet_161 rfl (lv_at hl 1 rfl) ?_
                refine r_geti hC hH fl_X12_22_12 (hL _ mM0) sM0 rfl dX12_layQuiet_162 ?_
                obtain ⟨j18, ej18, h⟩ := jn_e h
                have hj18 : ∀ (x22 : Int32) (m23 : gMem) (H : Heap) (locs : List Loc) (ls : Array Slot), (j18 x22 m23) = some memz → gH D cy shM ad L (gA ad L) s.heap m23 H locs → lv_has ls 4 [(0, .ref (ad 0)), (1, .int p0), (2, .int x22)] → W p l e R s m args below meth c H locs 0 0 Q (F0 m 194 ls []) := by
                  intro x22 m23 H locs ls h hH hl
                  have h := ap2 ej18 h
                  refine lv_goto (tgt := 57) hC.x hC.b dX12_layQuiet_194 (by decide) ?_
                  exact ih6 x22 m23 H locs ls (ap2 es6 h) hH (lv_sub hl [0, 1, 2] rfl)
                clear ej18
                refine b_ic_ne (tgt := 178) hC dX12_layQuiet_165 (by decide) h (fun h => ?_) (fun h => ?_)
                · refine lv_iload_n hC.x hC.b dX12_layQuiet_178 rfl (lv_at hl 3 rfl) ?_
                  refine lv_bipush (v := 7) hC.x hC.b dX12_layQuiet_179 rfl ?_
                  refine b_ic_ge (tgt := 194) hC dX12_layQuiet_181 (by decide) h (fun h => ?_) (fun h => ?_)
                  · exact hj18 x7 m17 H locs ls h hH (lv_sub hl [1, 2, 3] rfl)
                  · refine i_inc (lv' := fun x19 => [(2, .int x19), (3, .int x9), (0, .ref (ad 0)), (1, .int p0)]) hC dX12_layQuiet_184 hl (k := 3) rfl (by decide) (fun _ => rfl) (z := 1) rfl h (fun x19 ls h hl => ?_)
                    refine lv_aload_n hC.x hC.b dX12_layQuiet_187 rfl (lv_at hl 2 rfl) ?_
                    refine r_getc (z := 19) hC hH fl_X12_124_12 (hL _ mM0) sM0 rfl dX12_layQuiet_188 ?_
                    refine lv_iload_n hC.x hC.b dX12_layQuiet_191 rfl (lv_at hl 0 rfl) ?_
                    refine lv_iconst (v := 0) hC.x hC.b dX12_layQuiet_192 rfl ?_
                    refine r_iast hC hF hH (hL _ mM19) sM19 h dX12_layQuiet_193 (fun m20 H locs h hH => ?_)
                    exact hj18 x19 m20 H locs ls h hH (lv_sub hl [2, 3, 0] rfl)
                · refine lv_aload_n hC.x hC.b dX12_layQuiet_168 rfl (lv_at hl 1 rfl) ?_
                  refine lv_iload_n hC.x hC.b dX12_layQuiet_169 rfl (lv_at hl 3 rfl) ?_
                  refine lv_iconst (v := 1) hC.x hC.b dX12_layQuiet_170 rfl ?_
                  refine lv_iadd hC.x hC.b dX12_layQuiet_171 ?_
                  obtain ⟨m21, hf21, h⟩ := bd_e h
                  refine c_V0 (As := [.int (x7 + (1 : Int32))]) (rest := []) (o := 0) (q := (RX12, TX12, 74)) hC hX hE.2.1 hF hH (c_X12_found (l := l) hk hL hE hf21) kw910 kw911 kw912 kw5 kw913 a_X12_found.1 a_X12_found.2 (hL _ mM0) sM0 rfl rfl hl.1 (rmk hR (by decide) (by decide)) (Nat.le_of_ble_eq_true rfl) dX12_layQuiet_172 (fun H locs hH => ?_)
                  refine lv_goto (tgt := 194) hC.x hC.b dX12_layQuiet_175 (by decide) ?_
                  exact hj18 x7 m21 H locs ls h hH (lv_sub hl [1, 2, 3] rfl)
              · refine lv_goto (tgt := 57) hC.x hC.b dX12_layQuiet_113 (by decide) ?_
                exact ih6 x7 m10 H locs ls (ap2 es6 h) hH (lv_sub hl [1, 2, 3] rfl)
          · refine i_inc (lv' := fun x24 => [(2, .int x24), (3, .int x9), (0, .ref (ad 0)), (1, .int p0)]) hC dX12_layQuiet_84 hl (k := 3) rfl (by decide) (fun _ => rfl) (z := -1) rfl h (fun x24 ls h hl => ?_)
            refine lv_goto (tgt := 57) hC.x hC.b dX12_layQuiet_87 (by decide) ?_
            exact ih6 x24 m10 H locs ls (ap2 es6 h) hH (lv_sub hl [2, 3, 0] rfl)
    exact hl6 _ (0 : Int32) m5 H locs ls h hH (lv_sub hl [1, 2, 0] rfl)
  · refine lv_aload_n hC.x hC.b dX12_layQuiet_51 rfl (lv_at hl 1 rfl) ?_
    refine lv_iconst (v := 0) hC.x hC.b dX12_layQuiet_52 rfl ?_
    obtain ⟨m25, hf25, h⟩ := bd_e h
    refine c_V0 (As := [.int (0 : Int32)]) (rest := []) (o := 0) (q := (RX12, TX12, 74)) hC hX hE.2.1 hF hH (c_X12_found (l := l) hk hL hE hf25) kw910 kw911 kw912 kw5 kw913 a_X12_found.1 a_X12_found.2 (hL _ mM0) sM0 rfl rfl hl.1 (rmk hR (by decide) (by decide)) (Nat.le_of_ble_eq_true rfl) dX12_layQuiet_53 (fun H locs hH => ?_)
    rw [hQ]
    exact e_v hC hr hH h dX12_layQuiet_56

def f_X12_in (p0 : Int32) (p1 : Int32) (p2 : Int32) : Option Int32 := if p0 < p1 then (some (0 : Int32)) else if p2 < p0 then (some (0 : Int32)) else some (1 : Int32)
set_option maxRecDepth 100000 in
set_option maxHeartbeats 4000000 in
theorem c_X12_in {l : Launch} {E : State → Prop} {D : va_G} {cy : Nat → ClassId} {ad : Nat → Nat} {L : List Nat} {mem : gMem} {p0 : Int32} {p1 : Int32} {p2 : Int32} {rv : Int32} (hk : gOk ad L) (hL : ∀ o ∈ LM0, o ∈ L) (hE : gEok ad L E)  (h : f_X12_in p0 p1 p2 = some rv) : gMet l yX12_in cX12_in 4 (some .boolean) 0 0 E D cy shM ad L [.ref (ad 0), .int p0, .int p1, .int p2] mem mem (some (.int rv)) := by
  refine g_go (own := RX12) (by decide +kernel) rfl hE (Nat.le_of_ble_eq_true rfl) ?_
  intro p e s m args below meth c R Q hargs hR hQ hEs hC hr hX H locs ls hH hl
  have hF := gF_of hk
  have hl : lv_has ls 4 [(0, .ref (ad 0)), (1, .int p0), (2, .int p1), (3, .int p2)] := hl
  refine lv_iload_n hC.x hC.b dX12_in_0 rfl (lv_at hl 1 rfl) ?_
  refine lv_iload_n hC.x hC.b dX12_in_1 rfl (lv_at hl 2 rfl) ?_
  refine b_ic_lt (tgt := 14) hC dX12_in_2 (by decide) h (fun h => ?_) (fun h => ?_)
  · refine lv_iconst (v := 0) hC.x hC.b dX12_in_14 rfl ?_
    rw [hQ]
    exact e_nr hC hr rfl hH h dX12_in_15
  · refine lv_iload_n hC.x hC.b dX12_in_5 rfl (lv_at hl 1 rfl) ?_
    refine lv_iload_n hC.x hC.b dX12_in_6 rfl (lv_at hl 3 rfl) ?_
    refine b_ic_gt (tgt := 14) hC dX12_in_7 (by decide) h (fun h => ?_) (fun h => ?_)
    · refine lv_iconst (v := 0) hC.x hC.b dX12_in_14 rfl ?_
      rw [hQ]
      exact e_nr hC hr rfl hH h dX12_in_15
    · refine lv_iconst (v := 1) hC.x hC.b dX12_in_10 rfl ?_
      refine lv_goto (tgt := 15) hC.x hC.b dX12_in_11 (by decide) ?_
      rw [hQ]
      exact e_nr hC hr rfl hH h dX12_in_15
def f_X12_has (p0 : Int32) (p1 : Int32) : Option Int32 := if ((p0 >>> (p1 &&& 31)) &&& (1 : Int32)) = (1 : Int32) then (some (1 : Int32)) else some (0 : Int32)
set_option maxRecDepth 100000 in
set_option maxHeartbeats 4000000 in
theorem c_X12_has {l : Launch} {E : State → Prop} {D : va_G} {cy : Nat → ClassId} {ad : Nat → Nat} {L : List Nat} {mem : gMem} {p0 : Int32} {p1 : Int32} {rv : Int32} (hk : gOk ad L) (hL : ∀ o ∈ LM0, o ∈ L) (hE : gEok ad L E)  (h : f_X12_has p0 p1 = some rv) : gMet l yX12_has cX12_has 3 (some .boolean) 0 0 E D cy shM ad L [.ref (ad 0), .int p0, .int p1] mem mem (some (.int rv)) := by
  refine g_go (own := RX12) (by decide +kernel) rfl hE (Nat.le_of_ble_eq_true rfl) ?_
  intro p e s m args below meth c R Q hargs hR hQ hEs hC hr hX H locs ls hH hl
  have hF := gF_of hk
  have hl : lv_has ls 3 [(0, .ref (ad 0)), (1, .int p0), (2, .int p1)] := hl
  refine lv_iload_n hC.x hC.b dX12_has_0 rfl (lv_at hl 1 rfl) ?_
  refine lv_iload_n hC.x hC.b dX12_has_1 rfl (lv_at hl 2 rfl) ?_
  refine lv_ishr hC.x hC.b dX12_has_2 ?_
  refine lv_iconst (v := 1) hC.x hC.b dX12_has_3 rfl ?_
  refine lv_iand hC.x hC.b dX12_has_4 ?_
  refine lv_iconst (v := 1) hC.x hC.b dX12_has_5 rfl ?_
  refine b_ic_ne (tgt := 13) hC dX12_has_6 (by decide) h (fun h => ?_) (fun h => ?_)
  · refine lv_iconst (v := 0) hC.x hC.b dX12_has_13 rfl ?_
    rw [hQ]
    exact e_nr hC hr rfl hH h dX12_has_14
  · refine lv_iconst (v := 1) hC.x hC.b dX12_has_9 rfl ?_
    refine lv_goto (tgt := 14) hC.x hC.b dX12_has_10 (by decide) ?_
    rw [hQ]
    exact e_nr hC hr rfl hH h dX12_has_14
def f_X12_apart (p0 : Int32) (p1 : Int32) : Option Int32 := if p1 ≤ p0 then (some (p0 - p1)) else some (p1 - p0)
set_option maxRecDepth 100000 in
set_option maxHeartbeats 4000000 in
theorem c_X12_apart {l : Launch} {E : State → Prop} {D : va_G} {cy : Nat → ClassId} {ad : Nat → Nat} {L : List Nat} {mem : gMem} {p0 : Int32} {p1 : Int32} {rv : Int32} (hk : gOk ad L) (hL : ∀ o ∈ LM0, o ∈ L) (hE : gEok ad L E)  (h : f_X12_apart p0 p1 = some rv) : gMet l yX12_apart cX12_apart 3 (some .int) 0 0 E D cy shM ad L [.ref (ad 0), .int p0, .int p1] mem mem (some (.int rv)) := by
  refine g_go (own := RX12) (by decide +kernel) rfl hE (Nat.le_of_ble_eq_true rfl) ?_
  intro p e s m args below meth c R Q hargs hR hQ hEs hC hr hX H locs ls hH hl
  have hF := gF_of hk
  have hl : lv_has ls 3 [(0, .ref (ad 0)), (1, .int p0), (2, .int p1)] := hl
  refine lv_iload_n hC.x hC.b dX12_apart_0 rfl (lv_at hl 1 rfl) ?_
  refine lv_iload_n hC.x hC.b dX12_apart_1 rfl (lv_at hl 2 rfl) ?_
  refine b_ic_ge (tgt := 11) hC dX12_apart_2 (by decide) h (fun h => ?_) (fun h => ?_)
  · refine lv_iload_n hC.x hC.b dX12_apart_11 rfl (lv_at hl 1 rfl) ?_
    refine lv_iload_n hC.x hC.b dX12_apart_12 rfl (lv_at hl 2 rfl) ?_
    refine lv_isub hC.x hC.b dX12_apart_13 ?_
    rw [hQ]
    exact e_ir hC hr hH h dX12_apart_14
  · refine lv_iload_n hC.x hC.b dX12_apart_5 rfl (lv_at hl 2 rfl) ?_
    refine lv_iload_n hC.x hC.b dX12_apart_6 rfl (lv_at hl 1 rfl) ?_
    refine lv_isub hC.x hC.b dX12_apart_7 ?_
    refine lv_goto (tgt := 14) hC.x hC.b dX12_apart_8 (by decide) ?_
    rw [hQ]
    exact e_ir hC hr hH h dX12_apart_14
theorem fl_X12_54_12 : gFl RX12 54 12 14 := ⟨RX12, TX12, 74, "OnTiptoeModel", rfl, inW12, by decide, kw90, Or.inl rfl⟩
theorem fl_X12_51_12 : gFl RX12 51 12 13 := ⟨RX12, TX12, 74, "OnTiptoeModel", rfl, inW12, by decide, kw89, Or.inl rfl⟩
theorem fl_X12_60_12 : gFl RX12 60 12 16 := ⟨RX12, TX12, 74, "OnTiptoeModel", rfl, inW12, by decide, kw92, Or.inl rfl⟩
def f_X12_next (mem : gMem) : Option Int32 := if (gI mem 0 13) ≤ (gI mem 0 14) then (some (-1 : Int32)) else if okI (gI mem 0 14) 100 then some (gI mem 6 (ix (gI mem 0 14))) else none
set_option maxRecDepth 100000 in
set_option maxHeartbeats 4000000 in
theorem c_X12_next {l : Launch} {E : State → Prop} {D : va_G} {cy : Nat → ClassId} {ad : Nat → Nat} {L : List Nat} {mem : gMem} {rv : Int32} (hk : gOk ad L) (hL : ∀ o ∈ LM0, o ∈ L) (hE : gEok ad L E)  (h : f_X12_next mem = some rv) : gMet l yX12_next cX12_next 1 (some .int) 0 0 E D cy shM ad L [.ref (ad 0)] mem mem (some (.int rv)) := by
  refine g_go (own := RX12) (by decide +kernel) rfl hE (Nat.le_of_ble_eq_true rfl) ?_
  intro p e s m args below meth c R Q hargs hR hQ hEs hC hr hX H locs ls hH hl
  have hF := gF_of hk
  have hl : lv_has ls 1 [(0, .ref (ad 0))] := hl
  refine lv_aload_n hC.x hC.b dX12_next_0 rfl (lv_at hl 0 rfl) ?_
  refine r_geti hC hH fl_X12_54_12 (hL _ mM0) sM0 rfl dX12_next_1 ?_
  refine lv_aload_n hC.x hC.b dX12_next_4 rfl (lv_at hl 0 rfl) ?_
  refine r_geti hC hH fl_X12_51_12 (hL _ mM0) sM0 rfl dX12_next_5 ?_
  refine b_ic_ge (tgt := 23) hC dX12_next_8 (by decide) h (fun h => ?_) (fun h => ?_)
  · refine lv_iconst (v := -1) hC.x hC.b dX12_next_23 rfl ?_
    rw [hQ]
    exact e_ir hC hr hH h dX12_next_24
  · refine lv_aload_n hC.x hC.b dX12_next_11 rfl (lv_at hl 0 rfl) ?_
    refine r_getc (z := 6) hC hH fl_X12_60_12 (hL _ mM0) sM0 rfl dX12_next_12 ?_
    refine lv_aload_n hC.x hC.b dX12_next_15 rfl (lv_at hl 0 rfl) ?_
    refine r_geti hC hH fl_X12_54_12 (hL _ mM0) sM0 rfl dX12_next_16 ?_
    refine r_iald hC hH (hL _ mM6) sM6 h dX12_next_19 (fun h => ?_)
    refine lv_goto (tgt := 24) hC.x hC.b dX12_next_20 (by decide) ?_
    rw [hQ]
    exact e_ir hC hr hH h dX12_next_24
theorem fl_X12_78_12 : gFl RX12 78 12 22 := ⟨RX12, TX12, 74, "OnTiptoeModel", rfl, inW12, by decide, kw98, Or.inl rfl⟩
theorem fl_X12_84_12 : gFl RX12 84 12 24 := ⟨RX12, TX12, 74, "OnTiptoeModel", rfl, inW12, by decide, kw100, Or.inl rfl⟩
theorem pl_X12_84_12 : gPl RX12 84 12 24 "I" := ⟨RX12, TX12, 74, tyX12, "OnTiptoeModel", rfl, inW12, tyX12_ok, nmX12, by decide, kw100, Or.inl rfl, rfl, rfl⟩
def f_X12_emits (mem : gMem) (p0 : Int32) : Option gMem := if okI (gI mem 0 24) 600 then lt1 (gsI mem 12 (ix (gI mem 0 24)) p0) fun (m1 : gMem) => lt1 (gsI m1 0 24 ((gI m1 0 24) + (1 : Int32))) fun (m2 : gMem) => some m2 else none
set_option maxRecDepth 100000 in
set_option maxHeartbeats 4000000 in
theorem c_X12_emits {l : Launch} {E : State → Prop} {D : va_G} {cy : Nat → ClassId} {ad : Nat → Nat} {L : List Nat} {mem : gMem} {p0 : Int32} {memz : gMem} (hk : gOk ad L) (hL : ∀ o ∈ LM0, o ∈ L) (hE : gEok ad L E)  (h : f_X12_emits mem p0 = some memz) : gMet l yX12_emits cX12_emits 2 none 0 0 E D cy shM ad L [.ref (ad 0), .int p0] mem memz none := by
  refine g_go (own := RX12) (by decide +kernel) rfl hE (Nat.le_of_ble_eq_true rfl) ?_
  intro p e s m args below meth c R Q hargs hR hQ hEs hC hr hX H locs ls hH hl
  have hF := gF_of hk
  have hl : lv_has ls 2 [(0, .ref (ad 0)), (1, .int p0)] := hl
  refine lv_aload_n hC.x hC.b dX12_emits_0 rfl (lv_at hl 0 rfl) ?_
  refine r_getc (z := 12) hC hH fl_X12_78_12 (hL _ mM0) sM0 rfl dX12_emits_1 ?_
  refine lv_aload_n hC.x hC.b dX12_emits_4 rfl (lv_at hl 0 rfl) ?_
  refine r_geti hC hH fl_X12_84_12 (hL _ mM0) sM0 rfl dX12_emits_5 ?_
  refine lv_iload_n hC.x hC.b dX12_emits_8 rfl (lv_at hl 1 rfl) ?_
  refine r_iast hC hF hH (hL _ mM12) sM12 h dX12_emits_9 (fun m1 H locs h hH => ?_)
  refine lv_aload_n hC.x hC.b dX12_emits_10 rfl (lv_at hl 0 rfl) ?_
  refine lv_dup hC.x hC.b dX12_emits_11 rfl ?_
  refine r_geti hC hH fl_X12_84_12 (hL _ mM0) sM0 rfl dX12_emits_12 ?_
  refine lv_iconst (v := 1) hC.x hC.b dX12_emits_15 rfl ?_
  refine lv_iadd hC.x hC.b dX12_emits_16 ?_
  refine r_puti hC hF hH pl_X12_84_12 (hL _ mM0) sM0 rfl h dX12_emits_17 (fun m2 H locs h hH => ?_)
  rw [hQ]
  exact e_v hC hr hH h dX12_emits_20
def f_X12_place (p0 : Int32) : Option Int32 := if p0 = 99 then (some (3 : Int32)) else if p0 = 107 then (some (4 : Int32)) else if p0 = 109 then (some (0 : Int32)) else if p0 = 116 then (some (5 : Int32)) else if p0 = 120 then (some (1 : Int32)) else if p0 = 121 then (some (2 : Int32)) else some (-1 : Int32)
set_option maxRecDepth 100000 in
set_option maxHeartbeats 4000000 in
theorem c_X12_place {l : Launch} {E : State → Prop} {D : va_G} {cy : Nat → ClassId} {ad : Nat → Nat} {L : List Nat} {mem : gMem} {p0 : Int32} {rv : Int32} (hk : gOk ad L) (hL : ∀ o ∈ LM0, o ∈ L) (hE : gEok ad L E)  (h : f_X12_place p0 = some rv) : gMet l yX12_place cX12_place 2 (some .int) 0 0 E D cy shM ad L [.ref (ad 0), .int p0] mem mem (some (.int rv)) := by
  refine g_go (own := RX12) (by decide +kernel) rfl hE (Nat.le_of_ble_eq_true rfl) ?_
  intro p e s m args below meth c R Q hargs hR hQ hEs hC hr hX H locs ls hH hl
  have hF := gF_of hk
  have hl : lv_has ls 2 [(0, .ref (ad 0)), (1, .int p0)] := hl
  refine lv_iload_n hC.x hC.b dX12_place_0 rfl (lv_at hl 1 rfl) ?_
  by_cases hx0 : p0 = 99
  · have h := ifp hx0 h
    refine lv_lookup (off := 65) (tgt := 66) hC.x hC.b dX12_place_1 (by decide) (by rw [hx0]; rfl) (by decide) ?_
    refine lv_iconst (v := 3) hC.x hC.b dX12_place_66 rfl ?_
    rw [hQ]
    exact e_ir hC hr hH h dX12_place_67
  have h := ifn hx0 h
  by_cases hx1 : p0 = 107
  · have h := ifp hx1 h
    refine lv_lookup (off := 67) (tgt := 68) hC.x hC.b dX12_place_1 (by decide) (by rw [hx1]; rfl) (by decide) ?_
    refine lv_iconst (v := 4) hC.x hC.b dX12_place_68 rfl ?_
    rw [hQ]
    exact e_ir hC hr hH h dX12_place_69
  have h := ifn hx1 h
  by_cases hx2 : p0 = 109
  · have h := ifp hx2 h
    refine lv_lookup (off := 59) (tgt := 60) hC.x hC.b dX12_place_1 (by decide) (by rw [hx2]; rfl) (by decide) ?_
    refine lv_iconst (v := 0) hC.x hC.b dX12_place_60 rfl ?_
    rw [hQ]
    exact e_ir hC hr hH h dX12_place_61
  have h := ifn hx2 h
  by_cases hx3 : p0 = 116
  · have h := ifp hx3 h
    refine lv_lookup (off := 69) (tgt := 70) hC.x hC.b dX12_place_1 (by decide) (by rw [hx3]; rfl) (by decide) ?_
    refine lv_iconst (v := 5) hC.x hC.b dX12_place_70 rfl ?_
    rw [hQ]
    exact e_ir hC hr hH h dX12_place_71
  have h := ifn hx3 h
  by_cases hx4 : p0 = 120
  · have h := ifp hx4 h
    refine lv_lookup (off := 61) (tgt := 62) hC.x hC.b dX12_place_1 (by decide) (by rw [hx4]; rfl) (by decide) ?_
    refine lv_iconst (v := 1) hC.x hC.b dX12_place_62 rfl ?_
    rw [hQ]
    exact e_ir hC hr hH h dX12_place_63
  have h := ifn hx4 h
  by_cases hx5 : p0 = 121
  · have h := ifp hx5 h
    refine lv_lookup (off := 63) (tgt := 64) hC.x hC.b dX12_place_1 (by decide) (by rw [hx5]; rfl) (by decide) ?_
    refine lv_iconst (v := 2) hC.x hC.b dX12_place_64 rfl ?_
    rw [hQ]
    exact e_ir hC hr hH h dX12_place_65
  have h := ifn hx5 h
  refine lv_lookup (off := 71) (tgt := 72) hC.x hC.b dX12_place_1 (by decide) (by have a0 := ne_ti (v := 99) (z := 99) rfl hx0; have a1 := ne_ti (v := 107) (z := 107) rfl hx1; have a2 := ne_ti (v := 109) (z := 109) rfl hx2; have a3 := ne_ti (v := 116) (z := 116) rfl hx3; have a4 := ne_ti (v := 120) (z := 120) rfl hx4; have a5 := ne_ti (v := 121) (z := 121) rfl hx5; simp [Op.lookupswitch.offset, Ne.symm a0, a0, Ne.symm a1, a1, Ne.symm a2, a2, Ne.symm a3, a3, Ne.symm a4, a4, Ne.symm a5, a5]) (by decide) ?_
  refine lv_iconst (v := -1) hC.x hC.b dX12_place_72 rfl ?_
  rw [hQ]
  exact e_ir hC hr hH h dX12_place_73
theorem fl_X12_48_12 : gFl RX12 48 12 12 := ⟨RX12, TX12, 74, "OnTiptoeModel", rfl, inW12, by decide, kw88, Or.inl rfl⟩
def f_X12_begin (mem : gMem) : Option Int32 := if 0 ≤ (gI mem 0 12) then (some ((10 : Int32) * (gI mem 0 12))) else some (0 : Int32)
set_option maxRecDepth 100000 in
set_option maxHeartbeats 4000000 in
theorem c_X12_begin {l : Launch} {E : State → Prop} {D : va_G} {cy : Nat → ClassId} {ad : Nat → Nat} {L : List Nat} {mem : gMem} {rv : Int32} (hk : gOk ad L) (hL : ∀ o ∈ LM0, o ∈ L) (hE : gEok ad L E)  (h : f_X12_begin mem = some rv) : gMet l yX12_begin cX12_begin 1 (some .int) 0 0 E D cy shM ad L [.ref (ad 0)] mem mem (some (.int rv)) := by
  refine g_go (own := RX12) (by decide +kernel) rfl hE (Nat.le_of_ble_eq_true rfl) ?_
  intro p e s m args below meth c R Q hargs hR hQ hEs hC hr hX H locs ls hH hl
  have hF := gF_of hk
  have hl : lv_has ls 1 [(0, .ref (ad 0))] := hl
  refine lv_aload_n hC.x hC.b dX12_begin_0 rfl (lv_at hl 0 rfl) ?_
  refine r_geti hC hH fl_X12_48_12 (hL _ mM0) sM0 rfl dX12_begin_1 ?_
  refine b_if_ge (tgt := 11) hC dX12_begin_4 (by decide) h (fun h => ?_) (fun h => ?_)
  · refine lv_bipush (v := 10) hC.x hC.b dX12_begin_11 rfl ?_
    refine lv_aload_n hC.x hC.b dX12_begin_13 rfl (lv_at hl 0 rfl) ?_
    refine r_geti hC hH fl_X12_48_12 (hL _ mM0) sM0 rfl dX12_begin_14 ?_
    refine lv_imul hC.x hC.b dX12_begin_17 ?_
    rw [hQ]
    exact e_ir hC hr hH h dX12_begin_18
  · refine lv_iconst (v := 0) hC.x hC.b dX12_begin_7 rfl ?_
    refine lv_goto (tgt := 18) hC.x hC.b dX12_begin_8 (by decide) ?_
    rw [hQ]
    exact e_ir hC hr hH h dX12_begin_18
theorem fl_X12_63_12 : gFl RX12 63 12 17 := ⟨RX12, TX12, 74, "OnTiptoeModel", rfl, inW12, by decide, kw93, Or.inl rfl⟩
def f_X12_behind (mem : gMem) : Option Int32 := if 0 ≤ (gI mem 0 12) then (if okI (gI mem 0 12) 6 then some (((10 : Int32) * (gI mem 0 12)) + (gI mem 7 (ix (gI mem 0 12)))) else none) else some (0 : Int32)
set_option maxRecDepth 100000 in
set_option maxHeartbeats 4000000 in
theorem c_X12_behind {l : Launch} {E : State → Prop} {D : va_G} {cy : Nat → ClassId} {ad : Nat → Nat} {L : List Nat} {mem : gMem} {rv : Int32} (hk : gOk ad L) (hL : ∀ o ∈ LM0, o ∈ L) (hE : gEok ad L E)  (h : f_X12_behind mem = some rv) : gMet l yX12_behind cX12_behind 1 (some .int) 0 0 E D cy shM ad L [.ref (ad 0)] mem mem (some (.int rv)) := by
  refine g_go (own := RX12) (by decide +kernel) rfl hE (Nat.le_of_ble_eq_true rfl) ?_
  intro p e s m args below meth c R Q hargs hR hQ hEs hC hr hX H locs ls hH hl
  have hF := gF_of hk
  have hl : lv_has ls 1 [(0, .ref (ad 0))] := hl
  refine lv_aload_n hC.x hC.b dX12_behind_0 rfl (lv_at hl 0 rfl) ?_
  refine r_geti hC hH fl_X12_48_12 (hL _ mM0) sM0 rfl dX12_behind_1 ?_
  refine b_if_ge (tgt := 11) hC dX12_behind_4 (by decide) h (fun h => ?_) (fun h => ?_)
  · refine lv_bipush (v := 10) hC.x hC.b dX12_behind_11 rfl ?_
    refine lv_aload_n hC.x hC.b dX12_behind_13 rfl (lv_at hl 0 rfl) ?_
    refine r_geti hC hH fl_X12_48_12 (hL _ mM0) sM0 rfl dX12_behind_14 ?_
    refine lv_imul hC.x hC.b dX12_behind_17 ?_
    refine lv_aload_n hC.x hC.b dX12_behind_18 rfl (lv_at hl 0 rfl) ?_
    refine r_getc (z := 7) hC hH fl_X12_63_12 (hL _ mM0) sM0 rfl dX12_behind_19 ?_
    refine lv_aload_n hC.x hC.b dX12_behind_22 rfl (lv_at hl 0 rfl) ?_
    refine r_geti hC hH fl_X12_48_12 (hL _ mM0) sM0 rfl dX12_behind_23 ?_
    refine r_iald hC hH (hL _ mM7) sM7 h dX12_behind_26 (fun h => ?_)
    refine lv_iadd hC.x hC.b dX12_behind_27 ?_
    rw [hQ]
    exact e_ir hC hr hH h dX12_behind_28
  · refine lv_iconst (v := 0) hC.x hC.b dX12_behind_7 rfl ?_
    refine lv_goto (tgt := 28) hC.x hC.b dX12_behind_8 (by decide) ?_
    rw [hQ]
    exact e_ir hC hr hH h dX12_behind_28
theorem fl_X12_29_12 : gFl RX12 29 12 6 := ⟨RX12, TX12, 74, "OnTiptoeModel", rfl, inW12, by decide, kw82, Or.inl rfl⟩
theorem fl_X12_33_12 : gFl RX12 33 12 7 := ⟨RX12, TX12, 74, "OnTiptoeModel", rfl, inW12, by decide, kw83, Or.inl rfl⟩
theorem fl_X12_19_12 : gFl RX12 19 12 3 := ⟨RX12, TX12, 74, "OnTiptoeModel", rfl, inW12, by decide, kw79, Or.inl rfl⟩
def f_X12_factOf (mem : gMem) (p0 : Int32) (p1 : Int32) (p2 : Int32) (p3 : Int32) : Option Int32 := if p0 = 0 then (some (p1 - p1 / (12 : Int32) * (12 : Int32))) else if 0 ≤ p2 then (if p0 = 1 then (some (p2 - p2 / (6 : Int32) * (6 : Int32))) else if p0 = 2 then (some (p2 / (6 : Int32))) else if p0 = 3 then (if okI p2 12 then some (gI mem 1 (ix p2)) else none) else if p0 = 4 then (if okI p3 4 then some (gI mem 2 (ix p3)) else none) else some (((gI mem 0 3) >>> (p2 &&& 31)) &&& (1 : Int32))) else some (0 : Int32)
set_option maxRecDepth 100000 in
set_option maxHeartbeats 4000000 in
theorem c_X12_factOf {l : Launch} {E : State → Prop} {D : va_G} {cy : Nat → ClassId} {ad : Nat → Nat} {L : List Nat} {mem : gMem} {p0 : Int32} {p1 : Int32} {p2 : Int32} {p3 : Int32} {rv : Int32} (hk : gOk ad L) (hL : ∀ o ∈ LM0, o ∈ L) (hE : gEok ad L E)  (h : f_X12_factOf mem p0 p1 p2 p3 = some rv) : gMet l yX12_factOf cX12_factOf 5 (some .int) 0 0 E D cy shM ad L [.ref (ad 0), .int p0, .int p1, .int p2, .int p3] mem mem (some (.int rv)) := by
  refine g_go (own := RX12) (by decide +kernel) rfl hE (Nat.le_of_ble_eq_true rfl) ?_
  intro p e s m args below meth c R Q hargs hR hQ hEs hC hr hX H locs ls hH hl
  have hF := gF_of hk
  have hl : lv_has ls 5 [(0, .ref (ad 0)), (1, .int p0), (2, .int p1), (3, .int p2), (4, .int p3)] := hl
  refine lv_iload_n hC.x hC.b dX12_factOf_0 rfl (lv_at hl 1 rfl) ?_
  refine b_if_ne (tgt := 9) hC dX12_factOf_1 (by decide) h (fun h => ?_) (fun h => ?_)
  · refine lv_iload_n hC.x hC.b dX12_factOf_9 rfl (lv_at hl 3 rfl) ?_
    refine b_if_ge (tgt := 15) hC dX12_factOf_10 (by decide) h (fun h => ?_) (fun h => ?_)
    · refine lv_iload_n hC.x hC.b dX12_factOf_15 rfl (lv_at hl 1 rfl) ?_
      by_cases hx0 : p0 = 1
      · have h := ifp hx0 h
        refine lv_tableIn (off := 32) (tgt := 48) hC.x hC.b dX12_factOf_16 (by rw [hx0]; decide) (by rw [hx0]; decide) (by rw [hx0]; rfl) (by decide) ?_
        refine lv_iload_n hC.x hC.b dX12_factOf_48 rfl (lv_at hl 3 rfl) ?_
        refine lv_bipush (v := 6) hC.x hC.b dX12_factOf_49 rfl ?_
        refine lv_irem hC.x hC.b dX12_factOf_51 (by decide) ?_
        rw [hQ]
        exact e_ir hC hr hH h dX12_factOf_52
      have h := ifn hx0 h
      by_cases hx1 : p0 = 2
      · have h := ifp hx1 h
        refine lv_tableIn (off := 37) (tgt := 53) hC.x hC.b dX12_factOf_16 (by rw [hx1]; decide) (by rw [hx1]; decide) (by rw [hx1]; rfl) (by decide) ?_
        refine lv_iload_n hC.x hC.b dX12_factOf_53 rfl (lv_at hl 3 rfl) ?_
        refine lv_bipush (v := 6) hC.x hC.b dX12_factOf_54 rfl ?_
        refine lv_idiv hC.x hC.b dX12_factOf_56 (by decide) ?_
        rw [hQ]
        exact e_ir hC hr hH h dX12_factOf_57
      have h := ifn hx1 h
      by_cases hx2 : p0 = 3
      · have h := ifp hx2 h
        refine lv_tableIn (off := 42) (tgt := 58) hC.x hC.b dX12_factOf_16 (by rw [hx2]; decide) (by rw [hx2]; decide) (by rw [hx2]; rfl) (by decide) ?_
        refine lv_aload_n hC.x hC.b dX12_factOf_58 rfl (lv_at hl 0 rfl) ?_
        refine r_getc (z := 1) hC hH fl_X12_29_12 (hL _ mM0) sM0 rfl dX12_factOf_59 ?_
        refine lv_iload_n hC.x hC.b dX12_factOf_62 rfl (lv_at hl 3 rfl) ?_
        refine r_iald hC hH (hL _ mM1) sM1 h dX12_factOf_63 (fun h => ?_)
        rw [hQ]
        exact e_ir hC hr hH h dX12_factOf_64
      have h := ifn hx2 h
      by_cases hx3 : p0 = 4
      · have h := ifp hx3 h
        refine lv_tableIn (off := 49) (tgt := 65) hC.x hC.b dX12_factOf_16 (by rw [hx3]; decide) (by rw [hx3]; decide) (by rw [hx3]; rfl) (by decide) ?_
        refine lv_aload_n hC.x hC.b dX12_factOf_65 rfl (lv_at hl 0 rfl) ?_
        refine r_getc (z := 2) hC hH fl_X12_33_12 (hL _ mM0) sM0 rfl dX12_factOf_66 ?_
        refine lv_iload hC.x hC.b dX12_factOf_69 (lv_at hl 4 rfl) ?_
        refine r_iald hC hH (hL _ mM2) sM2 h dX12_factOf_71 (fun h => ?_)
        rw [hQ]
        exact e_ir hC hr hH h dX12_factOf_72
      have h := ifn hx3 h
      refine lv_tableOut (tgt := 73) hC.x hC.b dX12_factOf_16 (by have a0 := ne_ti (v := 1) (z := 1) rfl hx0; have a1 := ne_ti (v := 2) (z := 2) rfl hx1; have a2 := ne_ti (v := 3) (z := 3) rfl hx2; have a3 := ne_ti (v := 4) (z := 4) rfl hx3; omega) (by decide) ?_
      refine lv_aload_n hC.x hC.b dX12_factOf_73 rfl (lv_at hl 0 rfl) ?_
      refine r_geti hC hH fl_X12_19_12 (hL _ mM0) sM0 rfl dX12_factOf_74 ?_
      refine lv_iload_n hC.x hC.b dX12_factOf_77 rfl (lv_at hl 3 rfl) ?_
      refine lv_ishr hC.x hC.b dX12_factOf_78 ?_
      refine lv_iconst (v := 1) hC.x hC.b dX12_factOf_79 rfl ?_
      refine lv_iand hC.x hC.b dX12_factOf_80 ?_
      rw [hQ]
      exact e_ir hC hr hH h dX12_factOf_81
    · refine lv_iconst (v := 0) hC.x hC.b dX12_factOf_13 rfl ?_
      rw [hQ]
      exact e_ir hC hr hH h dX12_factOf_14
  · refine lv_iload_n hC.x hC.b dX12_factOf_4 rfl (lv_at hl 2 rfl) ?_
    refine lv_bipush (v := 12) hC.x hC.b dX12_factOf_5 rfl ?_
    refine lv_irem hC.x hC.b dX12_factOf_7 (by decide) ?_
    rw [hQ]
    exact e_ir hC hr hH h dX12_factOf_8
def f_X12_slowly (p0 : Int32) : Option Int32 := if (3 : Int32) ≤ p0 then (some (p0 - (3 : Int32))) else some (0 : Int32)
set_option maxRecDepth 100000 in
set_option maxHeartbeats 4000000 in
theorem c_X12_slowly {l : Launch} {E : State → Prop} {D : va_G} {cy : Nat → ClassId} {ad : Nat → Nat} {L : List Nat} {mem : gMem} {p0 : Int32} {rv : Int32} (hk : gOk ad L) (hL : ∀ o ∈ LM0, o ∈ L) (hE : gEok ad L E)  (h : f_X12_slowly p0 = some rv) : gMet l yX12_slowly cX12_slowly 2 (some .int) 0 0 E D cy shM ad L [.ref (ad 0), .int p0] mem mem (some (.int rv)) := by
  refine g_go (own := RX12) (by decide +kernel) rfl hE (Nat.le_of_ble_eq_true rfl) ?_
  intro p e s m args below meth c R Q hargs hR hQ hEs hC hr hX H locs ls hH hl
  have hF := gF_of hk
  have hl : lv_has ls 2 [(0, .ref (ad 0)), (1, .int p0)] := hl
  refine lv_iload_n hC.x hC.b dX12_slowly_0 rfl (lv_at hl 1 rfl) ?_
  refine lv_iconst (v := 3) hC.x hC.b dX12_slowly_1 rfl ?_
  refine b_ic_ge (tgt := 9) hC dX12_slowly_2 (by decide) h (fun h => ?_) (fun h => ?_)
  · refine lv_iload_n hC.x hC.b dX12_slowly_9 rfl (lv_at hl 1 rfl) ?_
    refine lv_iconst (v := 3) hC.x hC.b dX12_slowly_10 rfl ?_
    refine lv_isub hC.x hC.b dX12_slowly_11 ?_
    rw [hQ]
    exact e_ir hC hr hH h dX12_slowly_12
  · refine lv_iconst (v := 0) hC.x hC.b dX12_slowly_5 rfl ?_
    refine lv_goto (tgt := 12) hC.x hC.b dX12_slowly_6 (by decide) ?_
    rw [hQ]
    exact e_ir hC hr hH h dX12_slowly_12
def f_X12_timeOf (mem : gMem) (p0 : Int32) : Option Int32 := if okI p0 4 then jn ((some (2 : Int32)) : Option Int32) fun j1 => if (gI mem 2 (ix p0)) = (3 : Int32) then (j1) else if okI p0 4 then if (gI mem 2 (ix p0)) = (6 : Int32) then (j1) else some (1 : Int32) else none else none
set_option maxRecDepth 100000 in
set_option maxHeartbeats 4000000 in
theorem c_X12_timeOf {l : Launch} {E : State → Prop} {D : va_G} {cy : Nat → ClassId} {ad : Nat → Nat} {L : List Nat} {mem : gMem} {p0 : Int32} {rv : Int32} (hk : gOk ad L) (hL : ∀ o ∈ LM0, o ∈ L) (hE : gEok ad L E)  (h : f_X12_timeOf mem p0 = some rv) : gMet l yX12_timeOf cX12_timeOf 2 (some .int) 0 0 E D cy shM ad L [.ref (ad 0), .int p0] mem mem (some (.int rv)) := by
  refine g_go (own := RX12) (by decide +kernel) rfl hE (Nat.le_of_ble_eq_true rfl) ?_
  intro p e s m args below meth c R Q hargs hR hQ hEs hC hr hX H locs ls hH hl
  have hF := gF_of hk
  have hl : lv_has ls 2 [(0, .ref (ad 0)), (1, .int p0)] := hl
  refine lv_aload_n hC.x hC.b dX12_timeOf_0 rfl (lv_at hl 0 rfl) ?_
  refine r_getc (z := 2) hC hH fl_X12_33_12 (hL _ mM0) sM0 rfl dX12_timeOf_1 ?_
  refine lv_iload_n hC.x hC.b dX12_timeOf_4 rfl (lv_at hl 1 rfl) ?_
  refine r_iald hC hH (hL _ mM2) sM2 h dX12_timeOf_5 (fun h => ?_)
  refine lv_iconst (v := 3) hC.x hC.b dX12_timeOf_6 rfl ?_
  obtain ⟨j1, ej1, h⟩ := jn_e h
  have hj1 : ∀  (H : Heap) (locs : List Loc) (ls : Array Slot), j1 = some rv → gH D cy shM ad L (gA ad L) s.heap mem H locs → lv_has ls 2 [] → W p l e R s m args below meth c H locs 0 0 Q (F0 m 21 ls []) := by
    intro H locs ls h hH hl
    have h := ap0 ej1 h
    refine lv_iconst (v := 2) hC.x hC.b dX12_timeOf_21 rfl ?_
    refine lv_goto (tgt := 26) hC.x hC.b dX12_timeOf_22 (by decide) ?_
    rw [hQ]
    exact e_ir hC hr hH h dX12_timeOf_26
  clear ej1
  refine b_ic_eq (tgt := 21) hC dX12_timeOf_7 (by decide) h (fun h => ?_) (fun h => ?_)
  · exact hj1  H locs ls h hH (lv_sub hl [] rfl)
  · refine lv_aload_n hC.x hC.b dX12_timeOf_10 rfl (lv_at hl 0 rfl) ?_
    refine r_getc (z := 2) hC hH fl_X12_33_12 (hL _ mM0) sM0 rfl dX12_timeOf_11 ?_
    refine lv_iload_n hC.x hC.b dX12_timeOf_14 rfl (lv_at hl 1 rfl) ?_
    refine r_iald hC hH (hL _ mM2) sM2 h dX12_timeOf_15 (fun h => ?_)
    refine lv_bipush (v := 6) hC.x hC.b dX12_timeOf_16 rfl ?_
    refine b_ic_ne (tgt := 25) hC dX12_timeOf_18 (by decide) h (fun h => ?_) (fun h => ?_)
    · refine lv_iconst (v := 1) hC.x hC.b dX12_timeOf_25 rfl ?_
      rw [hQ]
      exact e_ir hC hr hH h dX12_timeOf_26
    · exact hj1  H locs ls h hH (lv_sub hl [] rfl)
theorem fl_X12_25_12 : gFl RX12 25 12 5 := ⟨RX12, TX12, 74, "OnTiptoeModel", rfl, inW12, by decide, kw81, Or.inl rfl⟩
theorem pl_X12_25_12 : gPl RX12 25 12 5 "Z" := ⟨RX12, TX12, 74, tyX12, "OnTiptoeModel", rfl, inW12, tyX12_ok, nmX12, by decide, kw81, Or.inl rfl, rfl, rfl⟩
theorem pl_X12_16_12 : gPl RX12 16 12 2 "I" := ⟨RX12, TX12, 74, tyX12, "OnTiptoeModel", rfl, inW12, tyX12_ok, nmX12, by decide, kw78, Or.inl rfl, rfl, rfl⟩
def f_X12_lull (mem : gMem) : Option (Int32 × gMem) := jn ((fun (x2 : Int32) => if isB (0 : Int32) then lt1 (gsI mem 0 5 (0 : Int32)) fun (m3 : gMem) => lt1 (gsI m3 0 2 (0 : Int32)) fun (m4 : gMem) => some (x2, m4) else none) : Int32 → Option (Int32 × gMem)) fun j1 => if (gI mem 0 5) = 0 then ((j1 (0 : Int32))) else (j1 (1 : Int32))
set_option maxRecDepth 100000 in
set_option maxHeartbeats 4000000 in
theorem c_X12_lull {l : Launch} {E : State → Prop} {D : va_G} {cy : Nat → ClassId} {ad : Nat → Nat} {L : List Nat} {mem : gMem} {rv : Int32} {memz : gMem} (hk : gOk ad L) (hL : ∀ o ∈ LM0, o ∈ L) (hE : gEok ad L E)  (h : f_X12_lull mem = some (rv, memz)) : gMet l yX12_lull cX12_lull 2 (some .int) 0 0 E D cy shM ad L [.ref (ad 0)] mem memz (some (.int rv)) := by
  refine g_go (own := RX12) (by decide +kernel) rfl hE (Nat.le_of_ble_eq_true rfl) ?_
  intro p e s m args below meth c R Q hargs hR hQ hEs hC hr hX H locs ls hH hl
  have hF := gF_of hk
  have hl : lv_has ls 2 [(0, .ref (ad 0))] := hl
  refine lv_aload_n hC.x hC.b dX12_lull_0 rfl (lv_at hl 0 rfl) ?_
  refine r_geti hC hH fl_X12_25_12 (hL _ mM0) sM0 rfl dX12_lull_1 ?_
  obtain ⟨j1, ej1, h⟩ := jn_e h
  have hj1 : ∀ (x2 : Int32) (H : Heap) (locs : List Loc) (ls : Array Slot), (j1 x2) = some (rv, memz) → gH D cy shM ad L (gA ad L) s.heap mem H locs → lv_has ls 2 [(0, .ref (ad 0))] → W p l e R s m args below meth c H locs 0 0 Q (F0 m 12 ls [.int x2]) := by
    intro x2 H locs ls h hH hl
    have h := ap1 ej1 h
    refine lv_istore_n (lv' := [(1, .int x2), (0, .ref (ad 0))]) hC.x hC.b dX12_lull_12 rfl hl (by decide) rfl (fun ls hl => ?_)
    refine lv_aload_n hC.x hC.b dX12_lull_13 rfl (lv_at hl 1 rfl) ?_
    refine lv_iconst (v := 0) hC.x hC.b dX12_lull_14 rfl ?_
    refine r_putz hC hF hH pl_X12_25_12 (hL _ mM0) sM0 rfl h dX12_lull_15 (fun m3 H locs h hH => ?_)
    refine lv_aload_n hC.x hC.b dX12_lull_18 rfl (lv_at hl 1 rfl) ?_
    refine lv_iconst (v := 0) hC.x hC.b dX12_lull_19 rfl ?_
    refine r_puti hC hF hH pl_X12_16_12 (hL _ mM0) sM0 rfl h dX12_lull_20 (fun m4 H locs h hH => ?_)
    refine lv_iload_n hC.x hC.b dX12_lull_23 rfl (lv_at hl 0 rfl) ?_
    rw [hQ]
    exact e_i hC hr hH h dX12_lull_24
  clear ej1
  refine b_if_eq (tgt := 11) hC dX12_lull_4 (by decide) h (fun h => ?_) (fun h => ?_)
  · refine lv_iconst (v := 0) hC.x hC.b dX12_lull_11 rfl ?_
    exact hj1 (0 : Int32) H locs ls h hH (lv_sub hl [0] rfl)
  · refine lv_iconst (v := 1) hC.x hC.b dX12_lull_7 rfl ?_
    refine lv_goto (tgt := 12) hC.x hC.b dX12_lull_8 (by decide) ?_
    exact hj1 (1 : Int32) H locs ls h hH (lv_sub hl [0] rfl)
theorem fl_X12_118_12 : gFl RX12 118 12 35 := ⟨RX12, TX12, 74, "OnTiptoeModel", rfl, inW12, by decide, kw112, Or.inl rfl⟩
def f_X12_stays (mem : gMem) (p0 : Int32) (p1 : Int32) : Option gMem := if okI (((12 : Int32) * p0) + p1) 396 then lt1 (gI mem 17 (ix (((12 : Int32) * p0) + p1))) fun (x1 : Int32) => if okI ((((12 : Int32) * p0) + (12 : Int32)) + p1) 396 then if okI ((((12 : Int32) * p0) + (12 : Int32)) + p1) 396 then lt1 (gsI mem 17 (ix ((((12 : Int32) * p0) + (12 : Int32)) + p1)) ((gI mem 17 (ix ((((12 : Int32) * p0) + (12 : Int32)) + p1))) ||| ((x1 >>> ((1 : Int32) &&& 31)) ||| (x1 &&& (1 : Int32))))) fun (m2 : gMem) => some m2 else none else none else none
set_option maxRecDepth 100000 in
set_option maxHeartbeats 4000000 in
theorem c_X12_stays {l : Launch} {E : State → Prop} {D : va_G} {cy : Nat → ClassId} {ad : Nat → Nat} {L : List Nat} {mem : gMem} {p0 : Int32} {p1 : Int32} {memz : gMem} (hk : gOk ad L) (hL : ∀ o ∈ LM0, o ∈ L) (hE : gEok ad L E)  (h : f_X12_stays mem p0 p1 = some memz) : gMet l yX12_stays cX12_stays 4 none 0 0 E D cy shM ad L [.ref (ad 0), .int p0, .int p1] mem memz none := by
  refine g_go (own := RX12) (by decide +kernel) rfl hE (Nat.le_of_ble_eq_true rfl) ?_
  intro p e s m args below meth c R Q hargs hR hQ hEs hC hr hX H locs ls hH hl
  have hF := gF_of hk
  have hl : lv_has ls 4 [(0, .ref (ad 0)), (1, .int p0), (2, .int p1)] := hl
  refine lv_aload_n hC.x hC.b dX12_stays_0 rfl (lv_at hl 0 rfl) ?_
  refine r_getc (z := 17) hC hH fl_X12_118_12 (hL _ mM0) sM0 rfl dX12_stays_1 ?_
  refine lv_bipush (v := 12) hC.x hC.b dX12_stays_4 rfl ?_
  refine lv_iload_n hC.x hC.b dX12_stays_6 rfl (lv_at hl 1 rfl) ?_
  refine lv_imul hC.x hC.b dX12_stays_7 ?_
  refine lv_iload_n hC.x hC.b dX12_stays_8 rfl (lv_at hl 2 rfl) ?_
  refine lv_iadd hC.x hC.b dX12_stays_9 ?_
  refine r_iald hC hH (hL _ mM17) sM17 h dX12_stays_10 (fun h => ?_)
  refine n_i h (fun x1 h => ?_)
  refine lv_istore_n (lv' := [(3, .int x1), (0, .ref (ad 0)), (1, .int p0), (2, .int p1)]) hC.x hC.b dX12_stays_11 rfl hl (by decide) rfl (fun ls hl => ?_)
  refine lv_aload_n hC.x hC.b dX12_stays_12 rfl (lv_at hl 1 rfl) ?_
  refine r_getc (z := 17) hC hH fl_X12_118_12 (hL _ mM0) sM0 rfl dX12_stays_13 ?_
  refine lv_bipush (v := 12) hC.x hC.b dX12_stays_16 rfl ?_
  refine lv_iload_n hC.x hC.b dX12_stays_18 rfl (lv_at hl 2 rfl) ?_
  refine lv_imul hC.x hC.b dX12_stays_19 ?_
  refine lv_bipush (v := 12) hC.x hC.b dX12_stays_20 rfl ?_
  refine lv_iadd hC.x hC.b dX12_stays_22 ?_
  refine lv_iload_n hC.x hC.b dX12_stays_23 rfl (lv_at hl 3 rfl) ?_
  refine lv_iadd hC.x hC.b dX12_stays_24 ?_
  refine lv_dup2_11 hC.x hC.b dX12_stays_25 rfl rfl ?_
  refine r_iald hC hH (hL _ mM17) sM17 h dX12_stays_26 (fun h => ?_)
  refine lv_iload_n hC.x hC.b dX12_stays_27 rfl (lv_at hl 0 rfl) ?_
  refine lv_iconst (v := 1) hC.x hC.b dX12_stays_28 rfl ?_
  refine lv_ishr hC.x hC.b dX12_stays_29 ?_
  refine lv_iload_n hC.x hC.b dX12_stays_30 rfl (lv_at hl 0 rfl) ?_
  refine lv_iconst (v := 1) hC.x hC.b dX12_stays_31 rfl ?_
  refine lv_iand hC.x hC.b dX12_stays_32 ?_
  refine lv_ior hC.x hC.b dX12_stays_33 ?_
  refine lv_ior hC.x hC.b dX12_stays_34 ?_
  refine r_iast hC hF hH (hL _ mM17) sM17 h dX12_stays_35 (fun m2 H locs h hH => ?_)
  rw [hQ]
  exact e_v hC hr hH h dX12_stays_36
theorem fl_X12_121_12 : gFl RX12 121 12 36 := ⟨RX12, TX12, 74, "OnTiptoeModel", rfl, inW12, by decide, kw113, Or.inl rfl⟩
def s_X12_isOnTrail_2 (p1 : Int32) (mem : gMem) (p0 : Int32) (self1 : Int32 → Option Int32) (x2 : Int32) : Option Int32 := if p1 < x2 then (some (0 : Int32)) else if okI x2 9 then if (gI mem 18 (ix x2)) = p0 then (some (1 : Int32)) else lt1 (x2 + (1 : Int32)) fun (x3 : Int32) => (self1 x3) else none
def f_X12_isOnTrail (mem : gMem) (p0 : Int32) (p1 : Int32) : Option Int32 := lq1 (s_X12_isOnTrail_2 p1 mem p0) 1000 (0 : Int32)
set_option maxRecDepth 100000 in
set_option maxHeartbeats 4000000 in
theorem c_X12_isOnTrail {l : Launch} {E : State → Prop} {D : va_G} {cy : Nat → ClassId} {ad : Nat → Nat} {L : List Nat} {mem : gMem} {p0 : Int32} {p1 : Int32} {rv : Int32} (hk : gOk ad L) (hL : ∀ o ∈ LM0, o ∈ L) (hE : gEok ad L E)  (h : f_X12_isOnTrail mem p0 p1 = some rv) : gMet l yX12_isOnTrail cX12_isOnTrail 4 (some .boolean) 0 0 E D cy shM ad L [.ref (ad 0), .int p0, .int p1] mem mem (some (.int rv)) := by
  refine g_go (own := RX12) (by decide +kernel) rfl hE (Nat.le_of_ble_eq_true rfl) ?_
  intro p e s m args below meth c R Q hargs hR hQ hEs hC hr hX H locs ls hH hl
  have hF := gF_of hk
  have hl : lv_has ls 4 [(0, .ref (ad 0)), (1, .int p0), (2, .int p1)] := hl
  refine lv_iconst (v := 0) hC.x hC.b dX12_isOnTrail_0 rfl ?_
  refine lv_istore_n (lv' := [(3, .int (0 : Int32)), (0, .ref (ad 0)), (1, .int p0), (2, .int p1)]) hC.x hC.b dX12_isOnTrail_1 rfl hl (by decide) rfl (fun ls hl => ?_)
  have hl1 : ∀ (n : Nat) (x2 : Int32) (H : Heap) (locs : List Loc) (ls : Array Slot), lq1 (s_X12_isOnTrail_2 p1 mem p0) n x2 = some rv → gH D cy shM ad L (gA ad L) s.heap mem H locs → lv_has ls 4 [(0, .ref (ad 0)), (1, .int p0), (2, .int p1), (3, .int x2)] → W p l e R s m args below meth c H locs 0 0 Q (F0 m 2 ls []) := by
    intro n
    induction n with
    | zero => intro x2 H locs ls h _ _; exact lq1_0 h
    | succ n ih1 =>
      intro x2 H locs ls h hH hl
      obtain ⟨self1, es1, h⟩ := lq1_s h
      refine lv_iload_n hC.x hC.b dX12_isOnTrail_2 rfl (lv_at hl 3 rfl) ?_
      refine lv_iload_n hC.x hC.b dX12_isOnTrail_3 rfl (lv_at hl 2 rfl) ?_
      refine b_ic_gt (tgt := 25) hC dX12_isOnTrail_4 (by decide) h (fun h => ?_) (fun h => ?_)
      · refine lv_iconst (v := 0) hC.x hC.b dX12_isOnTrail_25 rfl ?_
        rw [hQ]
        exact e_nr hC hr rfl hH h dX12_isOnTrail_26
      · refine lv_aload_n hC.x hC.b dX12_isOnTrail_7 rfl (lv_at hl 0 rfl) ?_
        refine r_getc (z := 18) hC hH fl_X12_121_12 (hL _ mM0) sM0 rfl dX12_isOnTrail_8 ?_
        refine lv_iload_n hC.x hC.b dX12_isOnTrail_11 rfl (lv_at hl 3 rfl) ?_
        refine r_iald hC hH (hL _ mM18) sM18 h dX12_isOnTrail_12 (fun h => ?_)
        refine lv_iload_n hC.x hC.b dX12_isOnTrail_13 rfl (lv_at hl 1 rfl) ?_
        refine b_ic_ne (tgt := 19) hC dX12_isOnTrail_14 (by decide) h (fun h => ?_) (fun h => ?_)
        · refine i_inc (lv' := fun x3 => [(3, .int x3), (0, .ref (ad 0)), (1, .int p0), (2, .int p1)]) hC dX12_isOnTrail_19 hl (k := 3) rfl (by decide) (fun _ => rfl) (z := 1) rfl h (fun x3 ls h hl => ?_)
          refine lv_goto (tgt := 2) hC.x hC.b dX12_isOnTrail_22 (by decide) ?_
          exact ih1 x3 H locs ls (ap1 es1 h) hH (lv_sub hl [1, 2, 3, 0] rfl)
        · refine lv_iconst (v := 1) hC.x hC.b dX12_isOnTrail_17 rfl ?_
          rw [hQ]
          exact e_nr hC hr rfl hH h dX12_isOnTrail_18
  exact hl1 _ (0 : Int32) H locs ls h hH (lv_sub hl [1, 2, 3, 0] rfl)
theorem fl_X12_130_12 : gFl RX12 130 12 39 := ⟨RX12, TX12, 74, "OnTiptoeModel", rfl, inW12, by decide, kw116, Or.inl rfl⟩
theorem fl_X12_127_12 : gFl RX12 127 12 38 := ⟨RX12, TX12, 74, "OnTiptoeModel", rfl, inW12, by decide, kw115, Or.inl rfl⟩
theorem fl_X12_133_12 : gFl RX12 133 12 40 := ⟨RX12, TX12, 74, "OnTiptoeModel", rfl, inW12, by decide, kw117, Or.inl rfl⟩
theorem pl_X12_130_12 : gPl RX12 130 12 39 "I" := ⟨RX12, TX12, 74, tyX12, "OnTiptoeModel", rfl, inW12, tyX12_ok, nmX12, by decide, kw116, Or.inl rfl, rfl, rfl⟩
theorem pl_X12_133_12 : gPl RX12 133 12 40 "I" := ⟨RX12, TX12, 74, tyX12, "OnTiptoeModel", rfl, inW12, tyX12_ok, nmX12, by decide, kw117, Or.inl rfl, rfl, rfl⟩
def f_X12_found (mem : gMem) (p0 : Int32) : Option gMem := jn ((if okI p0 9 then lt1 (gsI mem 0 39 (gI mem 20 (ix p0))) fun (m2 : gMem) => lt1 (gsI m2 0 40 p0) fun (m3 : gMem) => some m3 else none) : Option gMem) fun j1 => if (gI mem 0 39) < 0 then (j1) else if okI p0 9 then if (gI mem 0 39) < (gI mem 20 (ix p0)) then (some mem) else if okI p0 9 then if (gI mem 20 (ix p0)) = (gI mem 0 39) then (if p0 < (gI mem 0 40) then (j1) else some mem) else j1 else none else none
set_option maxRecDepth 100000 in
set_option maxHeartbeats 4000000 in
theorem c_X12_found {l : Launch} {E : State → Prop} {D : va_G} {cy : Nat → ClassId} {ad : Nat → Nat} {L : List Nat} {mem : gMem} {p0 : Int32} {memz : gMem} (hk : gOk ad L) (hL : ∀ o ∈ LM0, o ∈ L) (hE : gEok ad L E)  (h : f_X12_found mem p0 = some memz) : gMet l yX12_found cX12_found 2 none 0 0 E D cy shM ad L [.ref (ad 0), .int p0] mem memz none := by
  refine g_go (own := RX12) (by decide +kernel) rfl hE (Nat.le_of_ble_eq_true rfl) ?_
  intro p e s m args below meth c R Q hargs hR hQ hEs hC hr hX H locs ls hH hl
  have hF := gF_of hk
  have hl : lv_has ls 2 [(0, .ref (ad 0)), (1, .int p0)] := hl
  refine lv_aload_n hC.x hC.b dX12_found_0 rfl (lv_at hl 0 rfl) ?_
  refine r_geti hC hH fl_X12_130_12 (hL _ mM0) sM0 rfl dX12_found_1 ?_
  obtain ⟨j1, ej1, h⟩ := jn_e h
  have hj1 : ∀  (H : Heap) (locs : List Loc) (ls : Array Slot), j1 = some memz → gH D cy shM ad L (gA ad L) s.heap mem H locs → lv_has ls 2 [(0, .ref (ad 0)), (1, .int p0)] → W p l e R s m args below meth c H locs 0 0 Q (F0 m 42 ls []) := by
    intro H locs ls h hH hl
    have h := ap0 ej1 h
    refine lv_aload_n hC.x hC.b dX12_found_42 rfl (lv_at hl 0 rfl) ?_
    refine lv_aload_n hC.x hC.b dX12_found_43 rfl (lv_at hl 0 rfl) ?_
    refine r_getc (z := 20) hC hH fl_X12_127_12 (hL _ mM0) sM0 rfl dX12_found_44 ?_
    refine lv_iload_n hC.x hC.b dX12_found_47 rfl (lv_at hl 1 rfl) ?_
    refine r_iald hC hH (hL _ mM20) sM20 h dX12_found_48 (fun h => ?_)
    refine r_puti hC hF hH pl_X12_130_12 (hL _ mM0) sM0 rfl h dX12_found_49 (fun m2 H locs h hH => ?_)
    refine lv_aload_n hC.x hC.b dX12_found_52 rfl (lv_at hl 0 rfl) ?_
    refine lv_iload_n hC.x hC.b dX12_found_53 rfl (lv_at hl 1 rfl) ?_
    refine r_puti hC hF hH pl_X12_133_12 (hL _ mM0) sM0 rfl h dX12_found_54 (fun m3 H locs h hH => ?_)
    rw [hQ]
    exact e_v hC hr hH h dX12_found_57
  clear ej1
  refine b_if_lt (tgt := 42) hC dX12_found_4 (by decide) h (fun h => ?_) (fun h => ?_)
  · exact hj1  H locs ls h hH (lv_sub hl [0, 1] rfl)
  · refine lv_aload_n hC.x hC.b dX12_found_7 rfl (lv_at hl 0 rfl) ?_
    refine r_getc (z := 20) hC hH fl_X12_127_12 (hL _ mM0) sM0 rfl dX12_found_8 ?_
    refine lv_iload_n hC.x hC.b dX12_found_11 rfl (lv_at hl 1 rfl) ?_
    refine r_iald hC hH (hL _ mM20) sM20 h dX12_found_12 (fun h => ?_)
    refine lv_aload_n hC.x hC.b dX12_found_13 rfl (lv_at hl 0 rfl) ?_
    refine r_geti hC hH fl_X12_130_12 (hL _ mM0) sM0 rfl dX12_found_14 ?_
    refine b_ic_gt (tgt := 41) hC dX12_found_17 (by decide) h (fun h => ?_) (fun h => ?_)
    · rw [hQ]
      exact e_v hC hr hH h dX12_found_41
    · refine lv_aload_n hC.x hC.b dX12_found_20 rfl (lv_at hl 0 rfl) ?_
      refine r_getc (z := 20) hC hH fl_X12_127_12 (hL _ mM0) sM0 rfl dX12_found_21 ?_
      refine lv_iload_n hC.x hC.b dX12_found_24 rfl (lv_at hl 1 rfl) ?_
      refine r_iald hC hH (hL _ mM20) sM20 h dX12_found_25 (fun h => ?_)
      refine lv_aload_n hC.x hC.b dX12_found_26 rfl (lv_at hl 0 rfl) ?_
      refine r_geti hC hH fl_X12_130_12 (hL _ mM0) sM0 rfl dX12_found_27 ?_
      refine b_ic_ne (tgt := 42) hC dX12_found_30 (by decide) h (fun h => ?_) (fun h => ?_)
      · exact hj1  H locs ls h hH (lv_sub hl [0, 1] rfl)
      · refine lv_iload_n hC.x hC.b dX12_found_33 rfl (lv_at hl 1 rfl) ?_
        refine lv_aload_n hC.x hC.b dX12_found_34 rfl (lv_at hl 0 rfl) ?_
        refine r_geti hC hH fl_X12_133_12 (hL _ mM0) sM0 rfl dX12_found_35 ?_
        refine b_ic_lt (tgt := 42) hC dX12_found_38 (by decide) h (fun h => ?_) (fun h => ?_)
        · exact hj1  H locs ls h hH (lv_sub hl [0, 1] rfl)
        · rw [hQ]
          exact e_v hC hr hH h dX12_found_41
def s_X12_divisor_5 (self1 : Int32 → Int32 → Option Int32) (x2 : Int32) (x3 : Int32) : Option Int32 := if x3 = 0 then (some x2) else if ¬ x3 = 0 then lt1 (x2 - x2 / x3 * x3) fun (x4 : Int32) => (self1 x3 x4) else none
def f_X12_divisor (p0 : Int32) (p1 : Int32) : Option Int32 := lq2 (s_X12_divisor_5) 1000 p0 p1
set_option maxRecDepth 100000 in
set_option maxHeartbeats 4000000 in
theorem c_X12_divisor {l : Launch} {E : State → Prop} {D : va_G} {cy : Nat → ClassId} {ad : Nat → Nat} {L : List Nat} {mem : gMem} {p0 : Int32} {p1 : Int32} {rv : Int32} (hk : gOk ad L) (hL : ∀ o ∈ LM0, o ∈ L) (hE : gEok ad L E)  (h : f_X12_divisor p0 p1 = some rv) : gMet l yX12_divisor cX12_divisor 6 (some .int) 0 0 E D cy shM ad L [.ref (ad 0), .int p0, .int p1] mem mem (some (.int rv)) := by
  refine g_go (own := RX12) (by decide +kernel) rfl hE (Nat.le_of_ble_eq_true rfl) ?_
  intro p e s m args below meth c R Q hargs hR hQ hEs hC hr hX H locs ls hH hl
  have hF := gF_of hk
  have hl : lv_has ls 6 [(0, .ref (ad 0)), (1, .int p0), (2, .int p1)] := hl
  refine lv_iload_n hC.x hC.b dX12_divisor_0 rfl (lv_at hl 1 rfl) ?_
  refine lv_istore_n (lv' := [(3, .int p0), (0, .ref (ad 0)), (1, .int p0), (2, .int p1)]) hC.x hC.b dX12_divisor_1 rfl hl (by decide) rfl (fun ls hl => ?_)
  refine lv_iload_n hC.x hC.b dX12_divisor_2 rfl (lv_at hl 3 rfl) ?_
  refine lv_istore (lv' := [(4, .int p1), (3, .int p0), (0, .ref (ad 0)), (1, .int p0), (2, .int p1)]) hC.x hC.b dX12_divisor_3 hl (by decide) rfl (fun ls hl => ?_)
  have hl1 : ∀ (n : Nat) (x2 : Int32) (x3 : Int32) (H : Heap) (locs : List Loc) (ls : Array Slot), lq2 (s_X12_divisor_5) n x2 x3 = some rv → gH D cy shM ad L (gA ad L) s.heap mem H locs → lv_has ls 6 [(3, .int x2), (4, .int x3)] → W p l e R s m args below meth c H locs 0 0 Q (F0 m 5 ls []) := by
    intro n
    induction n with
    | zero => intro x2 x3 H locs ls h _ _; exact lq2_0 h
    | succ n ih1 =>
      intro x2 x3 H locs ls h hH hl
      obtain ⟨self1, es1, h⟩ := lq2_s h
      refine lv_iload hC.x hC.b dX12_divisor_5 (lv_at hl 1 rfl) ?_
      refine b_if_eq (tgt := 26) hC dX12_divisor_7 (by decide) h (fun h => ?_) (fun h => ?_)
      · refine lv_iload_n hC.x hC.b dX12_divisor_26 rfl (lv_at hl 0 rfl) ?_
        rw [hQ]
        exact e_ir hC hr hH h dX12_divisor_27
      · refine lv_iload_n hC.x hC.b dX12_divisor_10 rfl (lv_at hl 0 rfl) ?_
        refine lv_iload hC.x hC.b dX12_divisor_11 (lv_at hl 1 rfl) ?_
        refine r_irem hC dX12_divisor_13 h (fun h => ?_)
        refine n_i h (fun x4 h => ?_)
        refine lv_istore (lv' := [(5, .int x4), (3, .int x2), (4, .int x3)]) hC.x hC.b dX12_divisor_14 hl (by decide) rfl (fun ls hl => ?_)
        refine lv_iload hC.x hC.b dX12_divisor_16 (lv_at hl 2 rfl) ?_
        refine lv_istore_n (lv' := [(3, .int x3), (5, .int x4), (4, .int x3)]) hC.x hC.b dX12_divisor_18 rfl hl (by decide) rfl (fun ls hl => ?_)
        refine lv_iload hC.x hC.b dX12_divisor_19 (lv_at hl 1 rfl) ?_
        refine lv_istore (lv' := [(4, .int x4), (3, .int x3), (5, .int x4)]) hC.x hC.b dX12_divisor_21 hl (by decide) rfl (fun ls hl => ?_)
        refine lv_goto (tgt := 5) hC.x hC.b dX12_divisor_23 (by decide) ?_
        exact ih1 x3 x4 H locs ls (ap2 es1 h) hH (lv_sub hl [1, 0] rfl)
  exact hl1 _ p0 p1 H locs ls h hH (lv_sub hl [1, 0] rfl)
theorem pl_X12_154_12 : gPl RX12 154 12 47 "Z" := ⟨RX12, TX12, 74, tyX12, "OnTiptoeModel", rfl, inW12, tyX12_ok, nmX12, by decide, kw124, Or.inl rfl, rfl, rfl⟩
theorem pl_X12_157_12 : gPl RX12 157 12 48 "Z" := ⟨RX12, TX12, 74, tyX12, "OnTiptoeModel", rfl, inW12, tyX12_ok, nmX12, by decide, kw125, Or.inl rfl, rfl, rfl⟩
theorem pl_X12_160_12 : gPl RX12 160 12 49 "I" := ⟨RX12, TX12, 74, tyX12, "OnTiptoeModel", rfl, inW12, tyX12_ok, nmX12, by decide, kw126, Or.inl rfl, rfl, rfl⟩
theorem fl_X12_7_12 : gFl RX12 7 12 0 := ⟨RX12, TX12, 74, "OnTiptoeModel", rfl, inW12, by decide, kw76, Or.inl rfl⟩
theorem pl_X12_163_12 : gPl RX12 163 12 50 "I" := ⟨RX12, TX12, 74, tyX12, "OnTiptoeModel", rfl, inW12, tyX12_ok, nmX12, by decide, kw127, Or.inl rfl, rfl, rfl⟩
theorem fl_X12_13_12 : gFl RX12 13 12 1 := ⟨RX12, TX12, 74, "OnTiptoeModel", rfl, inW12, by decide, kw77, Or.inl rfl⟩
theorem pl_X12_166_12 : gPl RX12 166 12 51 "I" := ⟨RX12, TX12, 74, tyX12, "OnTiptoeModel", rfl, inW12, tyX12_ok, nmX12, by decide, kw128, Or.inl rfl, rfl, rfl⟩
theorem fl_X12_16_12 : gFl RX12 16 12 2 := ⟨RX12, TX12, 74, "OnTiptoeModel", rfl, inW12, by decide, kw78, Or.inl rfl⟩
theorem pl_X12_169_12 : gPl RX12 169 12 52 "I" := ⟨RX12, TX12, 74, tyX12, "OnTiptoeModel", rfl, inW12, tyX12_ok, nmX12, by decide, kw129, Or.inl rfl, rfl, rfl⟩
theorem pl_X12_172_12 : gPl RX12 172 12 53 "I" := ⟨RX12, TX12, 74, tyX12, "OnTiptoeModel", rfl, inW12, tyX12_ok, nmX12, by decide, kw130, Or.inl rfl, rfl, rfl⟩
theorem fl_X12_22_12 : gFl RX12 22 12 4 := ⟨RX12, TX12, 74, "OnTiptoeModel", rfl, inW12, by decide, kw80, Or.inl rfl⟩
theorem pl_X12_175_12 : gPl RX12 175 12 54 "I" := ⟨RX12, TX12, 74, tyX12, "OnTiptoeModel", rfl, inW12, tyX12_ok, nmX12, by decide, kw131, Or.inl rfl, rfl, rfl⟩
theorem fl_X12_103_12 : gFl RX12 103 12 30 := ⟨RX12, TX12, 74, "OnTiptoeModel", rfl, inW12, by decide, kw107, Or.inl rfl⟩
theorem pl_X12_178_12 : gPl RX12 178 12 55 "I" := ⟨RX12, TX12, 74, tyX12, "OnTiptoeModel", rfl, inW12, tyX12_ok, nmX12, by decide, kw132, Or.inl rfl, rfl, rfl⟩
theorem fl_X12_136_12 : gFl RX12 136 12 41 := ⟨RX12, TX12, 74, "OnTiptoeModel", rfl, inW12, by decide, kw118, Or.inl rfl⟩
theorem pl_X12_181_12 : gPl RX12 181 12 56 "I" := ⟨RX12, TX12, 74, tyX12, "OnTiptoeModel", rfl, inW12, tyX12_ok, nmX12, by decide, kw133, Or.inl rfl, rfl, rfl⟩
theorem fl_X12_148_12 : gFl RX12 148 12 45 := ⟨RX12, TX12, 74, "OnTiptoeModel", rfl, inW12, by decide, kw122, Or.inl rfl⟩
theorem pl_X12_184_12 : gPl RX12 184 12 57 "I" := ⟨RX12, TX12, 74, tyX12, "OnTiptoeModel", rfl, inW12, tyX12_ok, nmX12, by decide, kw134, Or.inl rfl, rfl, rfl⟩
theorem fl_X12_187_12 : gFl RX12 187 12 58 := ⟨RX12, TX12, 74, "OnTiptoeModel", rfl, inW12, by decide, kw135, Or.inl rfl⟩
theorem fl_X12_202_12 : gFl RX12 202 12 63 := ⟨RX12, TX12, 74, "OnTiptoeModel", rfl, inW12, by decide, kw140, Or.inl rfl⟩
theorem fl_X12_106_12 : gFl RX12 106 12 31 := ⟨RX12, TX12, 74, "OnTiptoeModel", rfl, inW12, by decide, kw108, Or.inl rfl⟩
theorem fl_X12_211_12 : gFl RX12 211 12 66 := ⟨RX12, TX12, 74, "OnTiptoeModel", rfl, inW12, by decide, kw143, Or.inl rfl⟩
theorem fl_X12_151_12 : gFl RX12 151 12 46 := ⟨RX12, TX12, 74, "OnTiptoeModel", rfl, inW12, by decide, kw123, Or.inl rfl⟩
theorem fl_X12_190_12 : gFl RX12 190 12 59 := ⟨RX12, TX12, 74, "OnTiptoeModel", rfl, inW12, by decide, kw136, Or.inl rfl⟩
theorem fl_X12_193_12 : gFl RX12 193 12 60 := ⟨RX12, TX12, 74, "OnTiptoeModel", rfl, inW12, by decide, kw137, Or.inl rfl⟩
theorem fl_X12_36_12 : gFl RX12 36 12 8 := ⟨RX12, TX12, 74, "OnTiptoeModel", rfl, inW12, by decide, kw84, Or.inl rfl⟩
theorem fl_X12_196_12 : gFl RX12 196 12 61 := ⟨RX12, TX12, 74, "OnTiptoeModel", rfl, inW12, by decide, kw138, Or.inl rfl⟩
theorem fl_X12_39_12 : gFl RX12 39 12 9 := ⟨RX12, TX12, 74, "OnTiptoeModel", rfl, inW12, by decide, kw85, Or.inl rfl⟩
theorem fl_X12_199_12 : gFl RX12 199 12 62 := ⟨RX12, TX12, 74, "OnTiptoeModel", rfl, inW12, by decide, kw139, Or.inl rfl⟩
theorem fl_X12_42_12 : gFl RX12 42 12 10 := ⟨RX12, TX12, 74, "OnTiptoeModel", rfl, inW12, by decide, kw86, Or.inl rfl⟩
theorem fl_X12_205_12 : gFl RX12 205 12 64 := ⟨RX12, TX12, 74, "OnTiptoeModel", rfl, inW12, by decide, kw141, Or.inl rfl⟩
theorem fl_X12_139_12 : gFl RX12 139 12 42 := ⟨RX12, TX12, 74, "OnTiptoeModel", rfl, inW12, by decide, kw119, Or.inl rfl⟩
theorem fl_X12_208_12 : gFl RX12 208 12 65 := ⟨RX12, TX12, 74, "OnTiptoeModel", rfl, inW12, by decide, kw142, Or.inl rfl⟩
theorem fl_X12_142_12 : gFl RX12 142 12 43 := ⟨RX12, TX12, 74, "OnTiptoeModel", rfl, inW12, by decide, kw120, Or.inl rfl⟩
theorem fl_X12_214_12 : gFl RX12 214 12 67 := ⟨RX12, TX12, 74, "OnTiptoeModel", rfl, inW12, by decide, kw144, Or.inl rfl⟩
theorem fl_X12_145_12 : gFl RX12 145 12 44 := ⟨RX12, TX12, 74, "OnTiptoeModel", rfl, inW12, by decide, kw121, Or.inl rfl⟩
def s_X12_image_212 (self37 : Int32 → gMem → Option (Int32 × gMem)) (x38 : Int32) (m39 : gMem) : Option (Int32 × gMem) := if (6 : Int32) ≤ x38 then (some ((gI m39 0 0), m39)) else if okI x38 6 then if okI x38 6 then lt1 (gsI m39 31 (ix x38) (gI m39 21 (ix x38))) fun (m40 : gMem) => if okI x38 6 then if okI x38 6 then lt1 (gsI m40 32 (ix x38) (gI m40 22 (ix x38))) fun (m41 : gMem) => if okI x38 6 then if okI x38 6 then lt1 (gsI m41 34 (ix x38) (vp_nar .boolean (gI m41 23 (ix x38)))) fun (m42 : gMem) => lt1 (x38 + (1 : Int32)) fun (x43 : Int32) => (self37 x43 m42) else none else none else none else none else none else none
def s_X12_image_186 (j30 : gMem → Option (Int32 × gMem)) (self31 : Int32 → gMem → Option (Int32 × gMem)) (x32 : Int32) (m33 : gMem) : Option (Int32 × gMem) := if (16 : Int32) ≤ x32 then ((j30 m33)) else if okI x32 16 then if okI x32 16 then lt1 (gsI m33 29 (ix x32) (gI m33 5 (ix x32))) fun (m34 : gMem) => lt1 (x32 + (1 : Int32)) fun (x35 : Int32) => (self31 x35 m34) else none else none
def s_X12_image_137 (j21 : gMem → Option (Int32 × gMem)) (self22 : Int32 → gMem → Option (Int32 × gMem)) (x23 : Int32) (m24 : gMem) : Option (Int32 × gMem) := if (4 : Int32) ≤ x23 then ((j21 m24)) else if okI x23 4 then if okI x23 4 then lt1 (gsI m24 26 (ix x23) (gI m24 2 (ix x23))) fun (m25 : gMem) => if okI x23 4 then if okI x23 4 then lt1 (gsI m25 27 (ix x23) (gI m25 3 (ix x23))) fun (m26 : gMem) => if okI x23 4 then if okI x23 4 then lt1 (gsI m26 28 (ix x23) (gI m26 4 (ix x23))) fun (m27 : gMem) => lt1 (x23 + (1 : Int32)) fun (x28 : Int32) => (self22 x28 m27) else none else none else none else none else none else none
def s_X12_image_87 (j12 : gMem → Option (Int32 × gMem)) (self13 : Int32 → gMem → Option (Int32 × gMem)) (x14 : Int32) (m15 : gMem) : Option (Int32 × gMem) := if (12 : Int32) ≤ x14 then ((j12 m15)) else if okI x14 12 then if okI x14 12 then lt1 (gsI m15 25 (ix x14) (gI m15 1 (ix x14))) fun (m16 : gMem) => if okI x14 12 then if okI x14 12 then lt1 (gsI m16 30 (ix x14) (gI m16 16 (ix x14))) fun (m17 : gMem) => if okI x14 12 then if okI x14 12 then lt1 (gsI m17 33 (ix x14) (gI m17 24 (ix x14))) fun (m18 : gMem) => lt1 (x14 + (1 : Int32)) fun (x19 : Int32) => (self13 x19 m18) else none else none else none else none else none else none
def f_X12_image (mem : gMem) : Option (Int32 × gMem) := if isB (1 : Int32) then lt1 (gsI mem 0 47 (1 : Int32)) fun (m1 : gMem) => if isB (gI m1 0 5) then lt1 (gsI m1 0 48 (gI m1 0 5)) fun (m2 : gMem) => lt1 (gsI m2 0 49 (gI m2 0 12)) fun (m3 : gMem) => lt1 (gsI m3 0 50 (gI m3 0 0)) fun (m4 : gMem) => lt1 (gsI m4 0 51 (gI m4 0 1)) fun (m5 : gMem) => lt1 (gsI m5 0 52 (gI m5 0 2)) fun (m6 : gMem) => lt1 (gsI m6 0 53 (gI m6 0 3)) fun (m7 : gMem) => lt1 (gsI m7 0 54 (gI m7 0 4)) fun (m8 : gMem) => lt1 (gsI m8 0 55 (gI m8 0 30)) fun (m9 : gMem) => lt1 (gsI m9 0 56 (gI m9 0 41)) fun (m10 : gMem) => lt1 (gsI m10 0 57 (gI m10 0 45)) fun (m11 : gMem) => jn ((fun (m20 : gMem) => jn ((fun (m29 : gMem) => jn ((fun (m36 : gMem) => lq2 (s_X12_image_212) 1000 (0 : Int32) m36) : gMem → Option (Int32 × gMem)) fun j30 => lq2 (s_X12_image_186 j30) 1000 (0 : Int32) m29) : gMem → Option (Int32 × gMem)) fun j21 => lq2 (s_X12_image_137 j21) 1000 (0 : Int32) m20) : gMem → Option (Int32 × gMem)) fun j12 => lq2 (s_X12_image_87 j12) 1000 (0 : Int32) m11 else none else none
set_option maxRecDepth 100000 in
set_option maxHeartbeats 4000000 in
theorem c_X12_image {l : Launch} {E : State → Prop} {D : va_G} {cy : Nat → ClassId} {ad : Nat → Nat} {L : List Nat} {mem : gMem} {rv : Int32} {memz : gMem} (hk : gOk ad L) (hL : ∀ o ∈ LM0, o ∈ L) (hE : gEok ad L E)  (h : f_X12_image mem = some (rv, memz)) : gMet l yX12_image cX12_image 2 (some .int) 0 0 E D cy shM ad L [.ref (ad 0)] mem memz (some (.int rv)) := by
  refine g_go (own := RX12) (by decide +kernel) rfl hE (Nat.le_of_ble_eq_true rfl) ?_
  intro p e s m args below meth c R Q hargs hR hQ hEs hC hr hX H locs ls hH hl
  have hF := gF_of hk
  have hl : lv_has ls 2 [(0, .ref (ad 0))] := hl
  refine lv_aload_n hC.x hC.b dX12_image_0 rfl (lv_at hl 0 rfl) ?_
  refine lv_iconst (v := 1) hC.x hC.b dX12_image_1 rfl ?_
  refine r_putz hC hF hH pl_X12_154_12 (hL _ mM0) sM0 rfl h dX12_image_2 (fun m1 H locs h hH => ?_)
  refine lv_aload_n hC.x hC.b dX12_image_5 rfl (lv_at hl 0 rfl) ?_
  refine lv_aload_n hC.x hC.b dX12_image_6 rfl (lv_at hl 0 rfl) ?_
  refine r_geti hC hH fl_X12_25_12 (hL _ mM0) sM0 rfl dX12_image_7 ?_
  refine r_putz hC hF hH pl_X12_157_12 (hL _ mM0) sM0 rfl h dX12_image_10 (fun m2 H locs h hH => ?_)
  refine lv_aload_n hC.x hC.b dX12_image_13 rfl (lv_at hl 0 rfl) ?_
  refine lv_aload_n hC.x hC.b dX12_image_14 rfl (lv_at hl 0 rfl) ?_
  refine r_geti hC hH fl_X12_48_12 (hL _ mM0) sM0 rfl dX12_image_15 ?_
  refine r_puti hC hF hH pl_X12_160_12 (hL _ mM0) sM0 rfl h dX12_image_18 (fun m3 H locs h hH => ?_)
  refine lv_aload_n hC.x hC.b dX12_image_21 rfl (lv_at hl 0 rfl) ?_
  refine lv_aload_n hC.x hC.b dX12_image_22 rfl (lv_at hl 0 rfl) ?_
  refine r_geti hC hH fl_X12_7_12 (hL _ mM0) sM0 rfl dX12_image_23 ?_
  refine r_puti hC hF hH pl_X12_163_12 (hL _ mM0) sM0 rfl h dX12_image_26 (fun m4 H locs h hH => ?_)
  refine lv_aload_n hC.x hC.b dX12_image_29 rfl (lv_at hl 0 rfl) ?_
  refine lv_aload_n hC.x hC.b dX12_image_30 rfl (lv_at hl 0 rfl) ?_
  refine r_geti hC hH fl_X12_13_12 (hL _ mM0) sM0 rfl dX12_image_31 ?_
  refine r_puti hC hF hH pl_X12_166_12 (hL _ mM0) sM0 rfl h dX12_image_34 (fun m5 H locs h hH => ?_)
  refine lv_aload_n hC.x hC.b dX12_image_37 rfl (lv_at hl 0 rfl) ?_
  refine lv_aload_n hC.x hC.b dX12_image_38 rfl (lv_at hl 0 rfl) ?_
  refine r_geti hC hH fl_X12_16_12 (hL _ mM0) sM0 rfl dX12_image_39 ?_
  refine r_puti hC hF hH pl_X12_169_12 (hL _ mM0) sM0 rfl h dX12_image_42 (fun m6 H locs h hH => ?_)
  refine lv_aload_n hC.x hC.b dX12_image_45 rfl (lv_at hl 0 rfl) ?_
  refine lv_aload_n hC.x hC.b dX12_image_46 rfl (lv_at hl 0 rfl) ?_
  refine r_geti hC hH fl_X12_19_12 (hL _ mM0) sM0 rfl dX12_image_47 ?_
  refine r_puti hC hF hH pl_X12_172_12 (hL _ mM0) sM0 rfl h dX12_image_50 (fun m7 H locs h hH => ?_)
  refine lv_aload_n hC.x hC.b dX12_image_53 rfl (lv_at hl 0 rfl) ?_
  refine lv_aload_n hC.x hC.b dX12_image_54 rfl (lv_at hl 0 rfl) ?_
  refine r_geti hC hH fl_X12_22_12 (hL _ mM0) sM0 rfl dX12_image_55 ?_
  refine r_puti hC hF hH pl_X12_175_12 (hL _ mM0) sM0 rfl h dX12_image_58 (fun m8 H locs h hH => ?_)
  refine lv_aload_n hC.x hC.b dX12_image_61 rfl (lv_at hl 0 rfl) ?_
  refine lv_aload_n hC.x hC.b dX12_image_62 rfl (lv_at hl 0 rfl) ?_
  refine r_geti hC hH fl_X12_103_12 (hL _ mM0) sM0 rfl dX12_image_63 ?_
  refine r_puti hC hF hH pl_X12_178_12 (hL _ mM0) sM0 rfl h dX12_image_66 (fun m9 H locs h hH => ?_)
  refine lv_aload_n hC.x hC.b dX12_image_69 rfl (lv_at hl 0 rfl) ?_
  refine lv_aload_n hC.x hC.b dX12_image_70 rfl (lv_at hl 0 rfl) ?_
  refine r_geti hC hH fl_X12_136_12 (hL _ mM0) sM0 rfl dX12_image_71 ?_
  refine r_puti hC hF hH pl_X12_181_12 (hL _ mM0) sM0 rfl h dX12_image_74 (fun m10 H locs h hH => ?_)
  refine lv_aload_n hC.x hC.b dX12_image_77 rfl (lv_at hl 0 rfl) ?_
  refine lv_aload_n hC.x hC.b dX12_image_78 rfl (lv_at hl 0 rfl) ?_
  refine r_geti hC hH fl_X12_148_12 (hL _ mM0) sM0 rfl dX12_image_79 ?_
  refine r_puti hC hF hH pl_X12_184_12 (hL _ mM0) sM0 rfl h dX12_image_82 (fun m11 H locs h hH => ?_)
  refine lv_iconst (v := 0) hC.x hC.b dX12_image_85 rfl ?_
  refine lv_istore_n (lv' := [(1, .int (0 : Int32)), (0, .ref (ad 0))]) hC.x hC.b dX12_image_86 rfl hl (by decide) rfl (fun ls hl => ?_)
  obtain ⟨j12, ej12, h⟩ := jn_e h
  have hj12 : ∀ (m20 : gMem) (H : Heap) (locs : List Loc) (ls : Array Slot), (j12 m20) = some (rv, memz) → gH D cy shM ad L (gA ad L) s.heap m20 H locs → lv_has ls 2 [(0, .ref (ad 0))] → W p l e R s m args below meth c H locs 0 0 Q (F0 m 135 ls []) := by
    intro m20 H locs ls h hH hl
    have h := ap1 ej12 h
    refine lv_iconst (v := 0) hC.x hC.b dX12_image_135 rfl ?_
    refine lv_istore_n (lv' := [(1, .int (0 : Int32)), (0, .ref (ad 0))]) hC.x hC.b dX12_image_136 rfl hl (by decide) rfl (fun ls hl => ?_)
    obtain ⟨j21, ej21, h⟩ := jn_e h
    have hj21 : ∀ (m29 : gMem) (H : Heap) (locs : List Loc) (ls : Array Slot), (j21 m29) = some (rv, memz) → gH D cy shM ad L (gA ad L) s.heap m29 H locs → lv_has ls 2 [(0, .ref (ad 0))] → W p l e R s m args below meth c H locs 0 0 Q (F0 m 184 ls []) := by
      intro m29 H locs ls h hH hl
      have h := ap1 ej21 h
      refine lv_iconst (v := 0) hC.x hC.b dX12_image_184 rfl ?_
      refine lv_istore_n (lv' := [(1, .int (0 : Int32)), (0, .ref (ad 0))]) hC.x hC.b dX12_image_185 rfl hl (by decide) rfl (fun ls hl => ?_)
      obtain ⟨j30, ej30, h⟩ := jn_e h
      have hj30 : ∀ (m36 : gMem) (H : Heap) (locs : List Loc) (ls : Array Slot), (j30 m36) = some (rv, memz) → gH D cy shM ad L (gA ad L) s.heap m36 H locs → lv_has ls 2 [(0, .ref (ad 0))] → W p l e R s m args below meth c H locs 0 0 Q (F0 m 210 ls []) := by
        intro m36 H locs ls h hH hl
        have h := ap1 ej30 h
        refine lv_iconst (v := 0) hC.x hC.b dX12_image_210 rfl ?_
        refine lv_istore_n (lv' := [(1, .int (0 : Int32)), (0, .ref (ad 0))]) hC.x hC.b dX12_image_211 rfl hl (by decide) rfl (fun ls hl => ?_)
        have hl37 : ∀ (n : Nat) (x38 : Int32) (m39 : gMem) (H : Heap) (locs : List Loc) (ls : Array Slot), lq2 (s_X12_image_212) n x38 m39 = some (rv, memz) → gH D cy shM ad L (gA ad L) s.heap m39 H locs → lv_has ls 2 [(0, .ref (ad 0)), (1, .int x38)] → W p l e R s m args below meth c H locs 0 0 Q (F0 m 212 ls []) := by
          intro n
          induction n with
          | zero => intro x38 m39 H locs ls h _ _; exact lq2_0 h
          | succ n ih37 =>
            intro x38 m39 H locs ls h hH hl
            obtain ⟨self37, es37, h⟩ := lq2_s h
            refine lv_iload_n hC.x hC.b dX12_image_212 rfl (lv_at hl 1 rfl) ?_
            refine lv_bipush (v := 6) hC.x hC.b dX12_image_213 rfl ?_
            refine b_ic_ge (tgt := 260) hC dX12_image_215 (by decide) h (fun h => ?_) (fun h => ?_)
            · refine lv_aload_n hC.x hC.b dX12_image_260 rfl (lv_at hl 0 rfl) ?_
              refine r_geti hC hH fl_X12_7_12 (hL _ mM0) sM0 rfl dX12_image_261 ?_
              rw [hQ]
              exact e_i hC hr hH h dX12_image_264
            · refine lv_aload_n hC.x hC.b dX12_image_218 rfl (lv_at hl 0 rfl) ?_
              refine r_getc (z := 31) hC hH fl_X12_205_12 (hL _ mM0) sM0 rfl dX12_image_219 ?_
              refine lv_iload_n hC.x hC.b dX12_image_222 rfl (lv_at hl 1 rfl) ?_
              refine lv_aload_n hC.x hC.b dX12_image_223 rfl (lv_at hl 0 rfl) ?_
              refine r_getc (z := 21) hC hH fl_X12_139_12 (hL _ mM0) sM0 rfl dX12_image_224 ?_
              refine lv_iload_n hC.x hC.b dX12_image_227 rfl (lv_at hl 1 rfl) ?_
              refine r_iald hC hH (hL _ mM21) sM21 h dX12_image_228 (fun h => ?_)
              refine r_iast hC hF hH (hL _ mM31) sM31 h dX12_image_229 (fun m40 H locs h hH => ?_)
              refine lv_aload_n hC.x hC.b dX12_image_230 rfl (lv_at hl 0 rfl) ?_
              refine r_getc (z := 32) hC hH fl_X12_208_12 (hL _ mM0) sM0 rfl dX12_image_231 ?_
              refine lv_iload_n hC.x hC.b dX12_image_234 rfl (lv_at hl 1 rfl) ?_
              refine lv_aload_n hC.x hC.b dX12_image_235 rfl (lv_at hl 0 rfl) ?_
              refine r_getc (z := 22) hC hH fl_X12_142_12 (hL _ mM0) sM0 rfl dX12_image_236 ?_
              refine lv_iload_n hC.x hC.b dX12_image_239 rfl (lv_at hl 1 rfl) ?_
              refine r_iald hC hH (hL _ mM22) sM22 h dX12_image_240 (fun h => ?_)
              refine r_iast hC hF hH (hL _ mM32) sM32 h dX12_image_241 (fun m41 H locs h hH => ?_)
              refine lv_aload_n hC.x hC.b dX12_image_242 rfl (lv_at hl 0 rfl) ?_
              refine r_getc (z := 34) hC hH fl_X12_214_12 (hL _ mM0) sM0 rfl dX12_image_243 ?_
              refine lv_iload_n hC.x hC.b dX12_image_246 rfl (lv_at hl 1 rfl) ?_
              refine lv_aload_n hC.x hC.b dX12_image_247 rfl (lv_at hl 0 rfl) ?_
              refine r_getc (z := 23) hC hH fl_X12_145_12 (hL _ mM0) sM0 rfl dX12_image_248 ?_
              refine lv_iload_n hC.x hC.b dX12_image_251 rfl (lv_at hl 1 rfl) ?_
              refine r_zald hC hH (hL _ mM23) sM23 h dX12_image_252 (fun h => ?_)
              refine r_zast hC hF hH (hL _ mM34) sM34 h dX12_image_253 (fun m42 H locs h hH => ?_)
              refine i_inc (lv' := fun x43 => [(1, .int x43), (0, .ref (ad 0))]) hC dX12_image_254 hl (k := 1) rfl (by decide) (fun _ => rfl) (z := 1) rfl h (fun x43 ls h hl => ?_)
              refine lv_goto (tgt := 212) hC.x hC.b dX12_image_257 (by decide) ?_
              exact ih37 x43 m42 H locs ls (ap2 es37 h) hH (lv_sub hl [1, 0] rfl)
        exact hl37 _ (0 : Int32) m36 H locs ls h hH (lv_sub hl [1, 0] rfl)
      clear ej30
      have hl31 : ∀ (n : Nat) (x32 : Int32) (m33 : gMem) (H : Heap) (locs : List Loc) (ls : Array Slot), lq2 (s_X12_image_186 j30) n x32 m33 = some (rv, memz) → gH D cy shM ad L (gA ad L) s.heap m33 H locs → lv_has ls 2 [(0, .ref (ad 0)), (1, .int x32)] → W p l e R s m args below meth c H locs 0 0 Q (F0 m 186 ls []) := by
        intro n
        induction n with
        | zero => intro x32 m33 H locs ls h _ _; exact lq2_0 h
        | succ n ih31 =>
          intro x32 m33 H locs ls h hH hl
          obtain ⟨self31, es31, h⟩ := lq2_s h
          refine lv_iload_n hC.x hC.b dX12_image_186 rfl (lv_at hl 1 rfl) ?_
          refine lv_bipush (v := 16) hC.x hC.b dX12_image_187 rfl ?_
          refine b_ic_ge (tgt := 210) hC dX12_image_189 (by decide) h (fun h => ?_) (fun h => ?_)
          · exact hj30 m33 H locs ls h hH (lv_sub hl [0] rfl)
          · refine lv_aload_n hC.x hC.b dX12_image_192 rfl (lv_at hl 0 rfl) ?_
            refine r_getc (z := 29) hC hH fl_X12_199_12 (hL _ mM0) sM0 rfl dX12_image_193 ?_
            refine lv_iload_n hC.x hC.b dX12_image_196 rfl (lv_at hl 1 rfl) ?_
            refine lv_aload_n hC.x hC.b dX12_image_197 rfl (lv_at hl 0 rfl) ?_
            refine r_getc (z := 5) hC hH fl_X12_42_12 (hL _ mM0) sM0 rfl dX12_image_198 ?_
            refine lv_iload_n hC.x hC.b dX12_image_201 rfl (lv_at hl 1 rfl) ?_
            refine r_iald hC hH (hL _ mM5) sM5 h dX12_image_202 (fun h => ?_)
            refine r_iast hC hF hH (hL _ mM29) sM29 h dX12_image_203 (fun m34 H locs h hH => ?_)
            refine i_inc (lv' := fun x35 => [(1, .int x35), (0, .ref (ad 0))]) hC dX12_image_204 hl (k := 1) rfl (by decide) (fun _ => rfl) (z := 1) rfl h (fun x35 ls h hl => ?_)
            refine lv_goto (tgt := 186) hC.x hC.b dX12_image_207 (by decide) ?_
            exact ih31 x35 m34 H locs ls (ap2 es31 h) hH (lv_sub hl [1, 0] rfl)
      exact hl31 _ (0 : Int32) m29 H locs ls h hH (lv_sub hl [1, 0] rfl)
    clear ej21
    have hl22 : ∀ (n : Nat) (x23 : Int32) (m24 : gMem) (H : Heap) (locs : List Loc) (ls : Array Slot), lq2 (s_X12_image_137 j21) n x23 m24 = some (rv, memz) → gH D cy shM ad L (gA ad L) s.heap m24 H locs → lv_has ls 2 [(0, .ref (ad 0)), (1, .int x23)] → W p l e R s m args below meth c H locs 0 0 Q (F0 m 137 ls []) := by
      intro n
      induction n with
      | zero => intro x23 m24 H locs ls h _ _; exact lq2_0 h
      | succ n ih22 =>
        intro x23 m24 H locs ls h hH hl
        obtain ⟨self22, es22, h⟩ := lq2_s h
        refine lv_iload_n hC.x hC.b dX12_image_137 rfl (lv_at hl 1 rfl) ?_
        refine lv_iconst (v := 4) hC.x hC.b dX12_image_138 rfl ?_
        refine b_ic_ge (tgt := 184) hC dX12_image_139 (by decide) h (fun h => ?_) (fun h => ?_)
        · exact hj21 m24 H locs ls h hH (lv_sub hl [0] rfl)
        · refine lv_aload_n hC.x hC.b dX12_image_142 rfl (lv_at hl 0 rfl) ?_
          refine r_getc (z := 26) hC hH fl_X12_190_12 (hL _ mM0) sM0 rfl dX12_image_143 ?_
          refine lv_iload_n hC.x hC.b dX12_image_146 rfl (lv_at hl 1 rfl) ?_
          refine lv_aload_n hC.x hC.b dX12_image_147 rfl (lv_at hl 0 rfl) ?_
          refine r_getc (z := 2) hC hH fl_X12_33_12 (hL _ mM0) sM0 rfl dX12_image_148 ?_
          refine lv_iload_n hC.x hC.b dX12_image_151 rfl (lv_at hl 1 rfl) ?_
          refine r_iald hC hH (hL _ mM2) sM2 h dX12_image_152 (fun h => ?_)
          refine r_iast hC hF hH (hL _ mM26) sM26 h dX12_image_153 (fun m25 H locs h hH => ?_)
          refine lv_aload_n hC.x hC.b dX12_image_154 rfl (lv_at hl 0 rfl) ?_
          refine r_getc (z := 27) hC hH fl_X12_193_12 (hL _ mM0) sM0 rfl dX12_image_155 ?_
          refine lv_iload_n hC.x hC.b dX12_image_158 rfl (lv_at hl 1 rfl) ?_
          refine lv_aload_n hC.x hC.b dX12_image_159 rfl (lv_at hl 0 rfl) ?_
          refine r_getc (z := 3) hC hH fl_X12_36_12 (hL _ mM0) sM0 rfl dX12_image_160 ?_
          refine lv_iload_n hC.x hC.b dX12_image_163 rfl (lv_at hl 1 rfl) ?_
          refine r_iald hC hH (hL _ mM3) sM3 h dX12_image_164 (fun h => ?_)
          refine r_iast hC hF hH (hL _ mM27) sM27 h dX12_image_165 (fun m26 H locs h hH => ?_)
          refine lv_aload_n hC.x hC.b dX12_image_166 rfl (lv_at hl 0 rfl) ?_
          refine r_getc (z := 28) hC hH fl_X12_196_12 (hL _ mM0) sM0 rfl dX12_image_167 ?_
          refine lv_iload_n hC.x hC.b dX12_image_170 rfl (lv_at hl 1 rfl) ?_
          refine lv_aload_n hC.x hC.b dX12_image_171 rfl (lv_at hl 0 rfl) ?_
          refine r_getc (z := 4) hC hH fl_X12_39_12 (hL _ mM0) sM0 rfl dX12_image_172 ?_
          refine lv_iload_n hC.x hC.b dX12_image_175 rfl (lv_at hl 1 rfl) ?_
          refine r_iald hC hH (hL _ mM4) sM4 h dX12_image_176 (fun h => ?_)
          refine r_iast hC hF hH (hL _ mM28) sM28 h dX12_image_177 (fun m27 H locs h hH => ?_)
          refine i_inc (lv' := fun x28 => [(1, .int x28), (0, .ref (ad 0))]) hC dX12_image_178 hl (k := 1) rfl (by decide) (fun _ => rfl) (z := 1) rfl h (fun x28 ls h hl => ?_)
          refine lv_goto (tgt := 137) hC.x hC.b dX12_image_181 (by decide) ?_
          exact ih22 x28 m27 H locs ls (ap2 es22 h) hH (lv_sub hl [1, 0] rfl)
    exact hl22 _ (0 : Int32) m20 H locs ls h hH (lv_sub hl [1, 0] rfl)
  clear ej12
  have hl13 : ∀ (n : Nat) (x14 : Int32) (m15 : gMem) (H : Heap) (locs : List Loc) (ls : Array Slot), lq2 (s_X12_image_87 j12) n x14 m15 = some (rv, memz) → gH D cy shM ad L (gA ad L) s.heap m15 H locs → lv_has ls 2 [(0, .ref (ad 0)), (1, .int x14)] → W p l e R s m args below meth c H locs 0 0 Q (F0 m 87 ls []) := by
    intro n
    induction n with
    | zero => intro x14 m15 H locs ls h _ _; exact lq2_0 h
    | succ n ih13 =>
      intro x14 m15 H locs ls h hH hl
      obtain ⟨self13, es13, h⟩ := lq2_s h
      refine lv_iload_n hC.x hC.b dX12_image_87 rfl (lv_at hl 1 rfl) ?_
      refine lv_bipush (v := 12) hC.x hC.b dX12_image_88 rfl ?_
      refine b_ic_ge (tgt := 135) hC dX12_image_90 (by decide) h (fun h => ?_) (fun h => ?_)
      · exact hj12 m15 H locs ls h hH (lv_sub hl [0] rfl)
      · refine lv_aload_n hC.x hC.b dX12_image_93 rfl (lv_at hl 0 rfl) ?_
        refine r_getc (z := 25) hC hH fl_X12_187_12 (hL _ mM0) sM0 rfl dX12_image_94 ?_
        refine lv_iload_n hC.x hC.b dX12_image_97 rfl (lv_at hl 1 rfl) ?_
        refine lv_aload_n hC.x hC.b dX12_image_98 rfl (lv_at hl 0 rfl) ?_
        refine r_getc (z := 1) hC hH fl_X12_29_12 (hL _ mM0) sM0 rfl dX12_image_99 ?_
        refine lv_iload_n hC.x hC.b dX12_image_102 rfl (lv_at hl 1 rfl) ?_
        refine r_iald hC hH (hL _ mM1) sM1 h dX12_image_103 (fun h => ?_)
        refine r_iast hC hF hH (hL _ mM25) sM25 h dX12_image_104 (fun m16 H locs h hH => ?_)
        refine lv_aload_n hC.x hC.b dX12_image_105 rfl (lv_at hl 0 rfl) ?_
        refine r_getc (z := 30) hC hH fl_X12_202_12 (hL _ mM0) sM0 rfl dX12_image_106 ?_
        refine lv_iload_n hC.x hC.b dX12_image_109 rfl (lv_at hl 1 rfl) ?_
        refine lv_aload_n hC.x hC.b dX12_image_110 rfl (lv_at hl 0 rfl) ?_
        refine r_getc (z := 16) hC hH fl_X12_106_12 (hL _ mM0) sM0 rfl dX12_image_111 ?_
        refine lv_iload_n hC.x hC.b dX12_image_114 rfl (lv_at hl 1 rfl) ?_
        refine r_iald hC hH (hL _ mM16) sM16 h dX12_image_115 (fun h => ?_)
        refine r_iast hC hF hH (hL _ mM30) sM30 h dX12_image_116 (fun m17 H locs h hH => ?_)
        refine lv_aload_n hC.x hC.b dX12_image_117 rfl (lv_at hl 0 rfl) ?_
        refine r_getc (z := 33) hC hH fl_X12_211_12 (hL _ mM0) sM0 rfl dX12_image_118 ?_
        refine lv_iload_n hC.x hC.b dX12_image_121 rfl (lv_at hl 1 rfl) ?_
        refine lv_aload_n hC.x hC.b dX12_image_122 rfl (lv_at hl 0 rfl) ?_
        refine r_getc (z := 24) hC hH fl_X12_151_12 (hL _ mM0) sM0 rfl dX12_image_123 ?_
        refine lv_iload_n hC.x hC.b dX12_image_126 rfl (lv_at hl 1 rfl) ?_
        refine r_iald hC hH (hL _ mM24) sM24 h dX12_image_127 (fun h => ?_)
        refine r_iast hC hF hH (hL _ mM33) sM33 h dX12_image_128 (fun m18 H locs h hH => ?_)
        refine i_inc (lv' := fun x19 => [(1, .int x19), (0, .ref (ad 0))]) hC dX12_image_129 hl (k := 1) rfl (by decide) (fun _ => rfl) (z := 1) rfl h (fun x19 ls h hl => ?_)
        refine lv_goto (tgt := 87) hC.x hC.b dX12_image_132 (by decide) ?_
        exact ih13 x19 m18 H locs ls (ap2 es13 h) hH (lv_sub hl [1, 0] rfl)
  exact hl13 _ (0 : Int32) m11 H locs ls h hH (lv_sub hl [1, 0] rfl)
theorem fl_X12_154_12 : gFl RX12 154 12 47 := ⟨RX12, TX12, 74, "OnTiptoeModel", rfl, inW12, by decide, kw124, Or.inl rfl⟩
theorem fl_X12_157_12 : gFl RX12 157 12 48 := ⟨RX12, TX12, 74, "OnTiptoeModel", rfl, inW12, by decide, kw125, Or.inl rfl⟩
theorem fl_X12_160_12 : gFl RX12 160 12 49 := ⟨RX12, TX12, 74, "OnTiptoeModel", rfl, inW12, by decide, kw126, Or.inl rfl⟩
theorem pl_X12_48_12 : gPl RX12 48 12 12 "I" := ⟨RX12, TX12, 74, tyX12, "OnTiptoeModel", rfl, inW12, tyX12_ok, nmX12, by decide, kw88, Or.inl rfl, rfl, rfl⟩
theorem fl_X12_163_12 : gFl RX12 163 12 50 := ⟨RX12, TX12, 74, "OnTiptoeModel", rfl, inW12, by decide, kw127, Or.inl rfl⟩
theorem pl_X12_7_12 : gPl RX12 7 12 0 "I" := ⟨RX12, TX12, 74, tyX12, "OnTiptoeModel", rfl, inW12, tyX12_ok, nmX12, by decide, kw76, Or.inl rfl, rfl, rfl⟩
theorem fl_X12_166_12 : gFl RX12 166 12 51 := ⟨RX12, TX12, 74, "OnTiptoeModel", rfl, inW12, by decide, kw128, Or.inl rfl⟩
theorem pl_X12_13_12 : gPl RX12 13 12 1 "I" := ⟨RX12, TX12, 74, tyX12, "OnTiptoeModel", rfl, inW12, tyX12_ok, nmX12, by decide, kw77, Or.inl rfl, rfl, rfl⟩
theorem fl_X12_169_12 : gFl RX12 169 12 52 := ⟨RX12, TX12, 74, "OnTiptoeModel", rfl, inW12, by decide, kw129, Or.inl rfl⟩
theorem fl_X12_172_12 : gFl RX12 172 12 53 := ⟨RX12, TX12, 74, "OnTiptoeModel", rfl, inW12, by decide, kw130, Or.inl rfl⟩
theorem pl_X12_19_12 : gPl RX12 19 12 3 "I" := ⟨RX12, TX12, 74, tyX12, "OnTiptoeModel", rfl, inW12, tyX12_ok, nmX12, by decide, kw79, Or.inl rfl, rfl, rfl⟩
theorem fl_X12_175_12 : gFl RX12 175 12 54 := ⟨RX12, TX12, 74, "OnTiptoeModel", rfl, inW12, by decide, kw131, Or.inl rfl⟩
theorem pl_X12_22_12 : gPl RX12 22 12 4 "I" := ⟨RX12, TX12, 74, tyX12, "OnTiptoeModel", rfl, inW12, tyX12_ok, nmX12, by decide, kw80, Or.inl rfl, rfl, rfl⟩
theorem fl_X12_178_12 : gFl RX12 178 12 55 := ⟨RX12, TX12, 74, "OnTiptoeModel", rfl, inW12, by decide, kw132, Or.inl rfl⟩
theorem pl_X12_103_12 : gPl RX12 103 12 30 "I" := ⟨RX12, TX12, 74, tyX12, "OnTiptoeModel", rfl, inW12, tyX12_ok, nmX12, by decide, kw107, Or.inl rfl, rfl, rfl⟩
theorem fl_X12_181_12 : gFl RX12 181 12 56 := ⟨RX12, TX12, 74, "OnTiptoeModel", rfl, inW12, by decide, kw133, Or.inl rfl⟩
theorem pl_X12_136_12 : gPl RX12 136 12 41 "I" := ⟨RX12, TX12, 74, tyX12, "OnTiptoeModel", rfl, inW12, tyX12_ok, nmX12, by decide, kw118, Or.inl rfl, rfl, rfl⟩
theorem fl_X12_184_12 : gFl RX12 184 12 57 := ⟨RX12, TX12, 74, "OnTiptoeModel", rfl, inW12, by decide, kw134, Or.inl rfl⟩
theorem pl_X12_148_12 : gPl RX12 148 12 45 "I" := ⟨RX12, TX12, 74, tyX12, "OnTiptoeModel", rfl, inW12, tyX12_ok, nmX12, by decide, kw122, Or.inl rfl, rfl, rfl⟩
def s_X12_undo_217 (self36 : Int32 → gMem → Option (Int32 × gMem)) (x37 : Int32) (m38 : gMem) : Option (Int32 × gMem) := if (6 : Int32) ≤ x37 then (some ((gI m38 0 0), m38)) else if okI x37 6 then if okI x37 6 then lt1 (gsI m38 21 (ix x37) (gI m38 31 (ix x37))) fun (m39 : gMem) => if okI x37 6 then if okI x37 6 then lt1 (gsI m39 22 (ix x37) (gI m39 32 (ix x37))) fun (m40 : gMem) => if okI x37 6 then if okI x37 6 then lt1 (gsI m40 23 (ix x37) (vp_nar .boolean (gI m40 34 (ix x37)))) fun (m41 : gMem) => lt1 (x37 + (1 : Int32)) fun (x42 : Int32) => (self36 x42 m41) else none else none else none else none else none else none
def s_X12_undo_191 (j29 : gMem → Option (Int32 × gMem)) (self30 : Int32 → gMem → Option (Int32 × gMem)) (x31 : Int32) (m32 : gMem) : Option (Int32 × gMem) := if (16 : Int32) ≤ x31 then ((j29 m32)) else if okI x31 16 then if okI x31 16 then lt1 (gsI m32 5 (ix x31) (gI m32 29 (ix x31))) fun (m33 : gMem) => lt1 (x31 + (1 : Int32)) fun (x34 : Int32) => (self30 x34 m33) else none else none
def s_X12_undo_142 (j20 : gMem → Option (Int32 × gMem)) (self21 : Int32 → gMem → Option (Int32 × gMem)) (x22 : Int32) (m23 : gMem) : Option (Int32 × gMem) := if (4 : Int32) ≤ x22 then ((j20 m23)) else if okI x22 4 then if okI x22 4 then lt1 (gsI m23 2 (ix x22) (gI m23 26 (ix x22))) fun (m24 : gMem) => if okI x22 4 then if okI x22 4 then lt1 (gsI m24 3 (ix x22) (gI m24 27 (ix x22))) fun (m25 : gMem) => if okI x22 4 then if okI x22 4 then lt1 (gsI m25 4 (ix x22) (gI m25 28 (ix x22))) fun (m26 : gMem) => lt1 (x22 + (1 : Int32)) fun (x27 : Int32) => (self21 x27 m26) else none else none else none else none else none else none
def s_X12_undo_92 (j11 : gMem → Option (Int32 × gMem)) (self12 : Int32 → gMem → Option (Int32 × gMem)) (x13 : Int32) (m14 : gMem) : Option (Int32 × gMem) := if (12 : Int32) ≤ x13 then ((j11 m14)) else if okI x13 12 then if okI x13 12 then lt1 (gsI m14 1 (ix x13) (gI m14 25 (ix x13))) fun (m15 : gMem) => if okI x13 12 then if okI x13 12 then lt1 (gsI m15 16 (ix x13) (gI m15 30 (ix x13))) fun (m16 : gMem) => if okI x13 12 then if okI x13 12 then lt1 (gsI m16 24 (ix x13) (gI m16 33 (ix x13))) fun (m17 : gMem) => lt1 (x13 + (1 : Int32)) fun (x18 : Int32) => (self12 x18 m17) else none else none else none else none else none else none
def f_X12_undo (mem : gMem) : Option (Int32 × gMem) := if (gI mem 0 47) = 0 then (some ((-3 : Int32), mem)) else if isB (gI mem 0 48) then lt1 (gsI mem 0 5 (gI mem 0 48)) fun (m1 : gMem) => lt1 (gsI m1 0 12 (gI m1 0 49)) fun (m2 : gMem) => lt1 (gsI m2 0 0 (gI m2 0 50)) fun (m3 : gMem) => lt1 (gsI m3 0 1 (gI m3 0 51)) fun (m4 : gMem) => lt1 (gsI m4 0 2 (gI m4 0 52)) fun (m5 : gMem) => lt1 (gsI m5 0 3 (gI m5 0 53)) fun (m6 : gMem) => lt1 (gsI m6 0 4 (gI m6 0 54)) fun (m7 : gMem) => lt1 (gsI m7 0 30 (gI m7 0 55)) fun (m8 : gMem) => lt1 (gsI m8 0 41 (gI m8 0 56)) fun (m9 : gMem) => lt1 (gsI m9 0 45 (gI m9 0 57)) fun (m10 : gMem) => jn ((fun (m19 : gMem) => jn ((fun (m28 : gMem) => jn ((fun (m35 : gMem) => lq2 (s_X12_undo_217) 1000 (0 : Int32) m35) : gMem → Option (Int32 × gMem)) fun j29 => lq2 (s_X12_undo_191 j29) 1000 (0 : Int32) m28) : gMem → Option (Int32 × gMem)) fun j20 => lq2 (s_X12_undo_142 j20) 1000 (0 : Int32) m19) : gMem → Option (Int32 × gMem)) fun j11 => lq2 (s_X12_undo_92 j11) 1000 (0 : Int32) m10 else none
set_option maxRecDepth 100000 in
set_option maxHeartbeats 4000000 in
theorem c_X12_undo {l : Launch} {E : State → Prop} {D : va_G} {cy : Nat → ClassId} {ad : Nat → Nat} {L : List Nat} {mem : gMem} {rv : Int32} {memz : gMem} (hk : gOk ad L) (hL : ∀ o ∈ LM0, o ∈ L) (hE : gEok ad L E)  (h : f_X12_undo mem = some (rv, memz)) : gMet l yX12_undo cX12_undo 2 (some .int) 0 0 E D cy shM ad L [.ref (ad 0)] mem memz (some (.int rv)) := by
  refine g_go (own := RX12) (by decide +kernel) rfl hE (Nat.le_of_ble_eq_true rfl) ?_
  intro p e s m args below meth c R Q hargs hR hQ hEs hC hr hX H locs ls hH hl
  have hF := gF_of hk
  have hl : lv_has ls 2 [(0, .ref (ad 0))] := hl
  refine lv_aload_n hC.x hC.b dX12_undo_0 rfl (lv_at hl 0 rfl) ?_
  refine r_geti hC hH fl_X12_154_12 (hL _ mM0) sM0 rfl dX12_undo_1 ?_
  refine b_if_ne (tgt := 10) hC dX12_undo_4 (by decide) h (fun h => ?_) (fun h => ?_)
  · refine lv_aload_n hC.x hC.b dX12_undo_10 rfl (lv_at hl 0 rfl) ?_
    refine lv_aload_n hC.x hC.b dX12_undo_11 rfl (lv_at hl 0 rfl) ?_
    refine r_geti hC hH fl_X12_157_12 (hL _ mM0) sM0 rfl dX12_undo_12 ?_
    refine r_putz hC hF hH pl_X12_25_12 (hL _ mM0) sM0 rfl h dX12_undo_15 (fun m1 H locs h hH => ?_)
    refine lv_aload_n hC.x hC.b dX12_undo_18 rfl (lv_at hl 0 rfl) ?_
    refine lv_aload_n hC.x hC.b dX12_undo_19 rfl (lv_at hl 0 rfl) ?_
    refine r_geti hC hH fl_X12_160_12 (hL _ mM0) sM0 rfl dX12_undo_20 ?_
    refine r_puti hC hF hH pl_X12_48_12 (hL _ mM0) sM0 rfl h dX12_undo_23 (fun m2 H locs h hH => ?_)
    refine lv_aload_n hC.x hC.b dX12_undo_26 rfl (lv_at hl 0 rfl) ?_
    refine lv_aload_n hC.x hC.b dX12_undo_27 rfl (lv_at hl 0 rfl) ?_
    refine r_geti hC hH fl_X12_163_12 (hL _ mM0) sM0 rfl dX12_undo_28 ?_
    refine r_puti hC hF hH pl_X12_7_12 (hL _ mM0) sM0 rfl h dX12_undo_31 (fun m3 H locs h hH => ?_)
    refine lv_aload_n hC.x hC.b dX12_undo_34 rfl (lv_at hl 0 rfl) ?_
    refine lv_aload_n hC.x hC.b dX12_undo_35 rfl (lv_at hl 0 rfl) ?_
    refine r_geti hC hH fl_X12_166_12 (hL _ mM0) sM0 rfl dX12_undo_36 ?_
    refine r_puti hC hF hH pl_X12_13_12 (hL _ mM0) sM0 rfl h dX12_undo_39 (fun m4 H locs h hH => ?_)
    refine lv_aload_n hC.x hC.b dX12_undo_42 rfl (lv_at hl 0 rfl) ?_
    refine lv_aload_n hC.x hC.b dX12_undo_43 rfl (lv_at hl 0 rfl) ?_
    refine r_geti hC hH fl_X12_169_12 (hL _ mM0) sM0 rfl dX12_undo_44 ?_
    refine r_puti hC hF hH pl_X12_16_12 (hL _ mM0) sM0 rfl h dX12_undo_47 (fun m5 H locs h hH => ?_)
    refine lv_aload_n hC.x hC.b dX12_undo_50 rfl (lv_at hl 0 rfl) ?_
    refine lv_aload_n hC.x hC.b dX12_undo_51 rfl (lv_at hl 0 rfl) ?_
    refine r_geti hC hH fl_X12_172_12 (hL _ mM0) sM0 rfl dX12_undo_52 ?_
    refine r_puti hC hF hH pl_X12_19_12 (hL _ mM0) sM0 rfl h dX12_undo_55 (fun m6 H locs h hH => ?_)
    refine lv_aload_n hC.x hC.b dX12_undo_58 rfl (lv_at hl 0 rfl) ?_
    refine lv_aload_n hC.x hC.b dX12_undo_59 rfl (lv_at hl 0 rfl) ?_
    refine r_geti hC hH fl_X12_175_12 (hL _ mM0) sM0 rfl dX12_undo_60 ?_
    refine r_puti hC hF hH pl_X12_22_12 (hL _ mM0) sM0 rfl h dX12_undo_63 (fun m7 H locs h hH => ?_)
    refine lv_aload_n hC.x hC.b dX12_undo_66 rfl (lv_at hl 0 rfl) ?_
    refine lv_aload_n hC.x hC.b dX12_undo_67 rfl (lv_at hl 0 rfl) ?_
    refine r_geti hC hH fl_X12_178_12 (hL _ mM0) sM0 rfl dX12_undo_68 ?_
    refine r_puti hC hF hH pl_X12_103_12 (hL _ mM0) sM0 rfl h dX12_undo_71 (fun m8 H locs h hH => ?_)
    refine lv_aload_n hC.x hC.b dX12_undo_74 rfl (lv_at hl 0 rfl) ?_
    refine lv_aload_n hC.x hC.b dX12_undo_75 rfl (lv_at hl 0 rfl) ?_
    refine r_geti hC hH fl_X12_181_12 (hL _ mM0) sM0 rfl dX12_undo_76 ?_
    refine r_puti hC hF hH pl_X12_136_12 (hL _ mM0) sM0 rfl h dX12_undo_79 (fun m9 H locs h hH => ?_)
    refine lv_aload_n hC.x hC.b dX12_undo_82 rfl (lv_at hl 0 rfl) ?_
    refine lv_aload_n hC.x hC.b dX12_undo_83 rfl (lv_at hl 0 rfl) ?_
    refine r_geti hC hH fl_X12_184_12 (hL _ mM0) sM0 rfl dX12_undo_84 ?_
    refine r_puti hC hF hH pl_X12_148_12 (hL _ mM0) sM0 rfl h dX12_undo_87 (fun m10 H locs h hH => ?_)
    refine lv_iconst (v := 0) hC.x hC.b dX12_undo_90 rfl ?_
    refine lv_istore_n (lv' := [(1, .int (0 : Int32)), (0, .ref (ad 0))]) hC.x hC.b dX12_undo_91 rfl hl (by decide) rfl (fun ls hl => ?_)
    obtain ⟨j11, ej11, h⟩ := jn_e h
    have hj11 : ∀ (m19 : gMem) (H : Heap) (locs : List Loc) (ls : Array Slot), (j11 m19) = some (rv, memz) → gH D cy shM ad L (gA ad L) s.heap m19 H locs → lv_has ls 2 [(0, .ref (ad 0))] → W p l e R s m args below meth c H locs 0 0 Q (F0 m 140 ls []) := by
      intro m19 H locs ls h hH hl
      have h := ap1 ej11 h
      refine lv_iconst (v := 0) hC.x hC.b dX12_undo_140 rfl ?_
      refine lv_istore_n (lv' := [(1, .int (0 : Int32)), (0, .ref (ad 0))]) hC.x hC.b dX12_undo_141 rfl hl (by decide) rfl (fun ls hl => ?_)
      obtain ⟨j20, ej20, h⟩ := jn_e h
      have hj20 : ∀ (m28 : gMem) (H : Heap) (locs : List Loc) (ls : Array Slot), (j20 m28) = some (rv, memz) → gH D cy shM ad L (gA ad L) s.heap m28 H locs → lv_has ls 2 [(0, .ref (ad 0))] → W p l e R s m args below meth c H locs 0 0 Q (F0 m 189 ls []) := by
        intro m28 H locs ls h hH hl
        have h := ap1 ej20 h
        refine lv_iconst (v := 0) hC.x hC.b dX12_undo_189 rfl ?_
        refine lv_istore_n (lv' := [(1, .int (0 : Int32)), (0, .ref (ad 0))]) hC.x hC.b dX12_undo_190 rfl hl (by decide) rfl (fun ls hl => ?_)
        obtain ⟨j29, ej29, h⟩ := jn_e h
        have hj29 : ∀ (m35 : gMem) (H : Heap) (locs : List Loc) (ls : Array Slot), (j29 m35) = some (rv, memz) → gH D cy shM ad L (gA ad L) s.heap m35 H locs → lv_has ls 2 [(0, .ref (ad 0))] → W p l e R s m args below meth c H locs 0 0 Q (F0 m 215 ls []) := by
          intro m35 H locs ls h hH hl
          have h := ap1 ej29 h
          refine lv_iconst (v := 0) hC.x hC.b dX12_undo_215 rfl ?_
          refine lv_istore_n (lv' := [(1, .int (0 : Int32)), (0, .ref (ad 0))]) hC.x hC.b dX12_undo_216 rfl hl (by decide) rfl (fun ls hl => ?_)
          have hl36 : ∀ (n : Nat) (x37 : Int32) (m38 : gMem) (H : Heap) (locs : List Loc) (ls : Array Slot), lq2 (s_X12_undo_217) n x37 m38 = some (rv, memz) → gH D cy shM ad L (gA ad L) s.heap m38 H locs → lv_has ls 2 [(0, .ref (ad 0)), (1, .int x37)] → W p l e R s m args below meth c H locs 0 0 Q (F0 m 217 ls []) := by
            intro n
            induction n with
            | zero => intro x37 m38 H locs ls h _ _; exact lq2_0 h
            | succ n ih36 =>
              intro x37 m38 H locs ls h hH hl
              obtain ⟨self36, es36, h⟩ := lq2_s h
              refine lv_iload_n hC.x hC.b dX12_undo_217 rfl (lv_at hl 1 rfl) ?_
              refine lv_bipush (v := 6) hC.x hC.b dX12_undo_218 rfl ?_
              refine b_ic_ge (tgt := 265) hC dX12_undo_220 (by decide) h (fun h => ?_) (fun h => ?_)
              · refine lv_aload_n hC.x hC.b dX12_undo_265 rfl (lv_at hl 0 rfl) ?_
                refine r_geti hC hH fl_X12_7_12 (hL _ mM0) sM0 rfl dX12_undo_266 ?_
                rw [hQ]
                exact e_i hC hr hH h dX12_undo_269
              · refine lv_aload_n hC.x hC.b dX12_undo_223 rfl (lv_at hl 0 rfl) ?_
                refine r_getc (z := 21) hC hH fl_X12_139_12 (hL _ mM0) sM0 rfl dX12_undo_224 ?_
                refine lv_iload_n hC.x hC.b dX12_undo_227 rfl (lv_at hl 1 rfl) ?_
                refine lv_aload_n hC.x hC.b dX12_undo_228 rfl (lv_at hl 0 rfl) ?_
                refine r_getc (z := 31) hC hH fl_X12_205_12 (hL _ mM0) sM0 rfl dX12_undo_229 ?_
                refine lv_iload_n hC.x hC.b dX12_undo_232 rfl (lv_at hl 1 rfl) ?_
                refine r_iald hC hH (hL _ mM31) sM31 h dX12_undo_233 (fun h => ?_)
                refine r_iast hC hF hH (hL _ mM21) sM21 h dX12_undo_234 (fun m39 H locs h hH => ?_)
                refine lv_aload_n hC.x hC.b dX12_undo_235 rfl (lv_at hl 0 rfl) ?_
                refine r_getc (z := 22) hC hH fl_X12_142_12 (hL _ mM0) sM0 rfl dX12_undo_236 ?_
                refine lv_iload_n hC.x hC.b dX12_undo_239 rfl (lv_at hl 1 rfl) ?_
                refine lv_aload_n hC.x hC.b dX12_undo_240 rfl (lv_at hl 0 rfl) ?_
                refine r_getc (z := 32) hC hH fl_X12_208_12 (hL _ mM0) sM0 rfl dX12_undo_241 ?_
                refine lv_iload_n hC.x hC.b dX12_undo_244 rfl (lv_at hl 1 rfl) ?_
                refine r_iald hC hH (hL _ mM32) sM32 h dX12_undo_245 (fun h => ?_)
                refine r_iast hC hF hH (hL _ mM22) sM22 h dX12_undo_246 (fun m40 H locs h hH => ?_)
                refine lv_aload_n hC.x hC.b dX12_undo_247 rfl (lv_at hl 0 rfl) ?_
                refine r_getc (z := 23) hC hH fl_X12_145_12 (hL _ mM0) sM0 rfl dX12_undo_248 ?_
                refine lv_iload_n hC.x hC.b dX12_undo_251 rfl (lv_at hl 1 rfl) ?_
                refine lv_aload_n hC.x hC.b dX12_undo_252 rfl (lv_at hl 0 rfl) ?_
                refine r_getc (z := 34) hC hH fl_X12_214_12 (hL _ mM0) sM0 rfl dX12_undo_253 ?_
                refine lv_iload_n hC.x hC.b dX12_undo_256 rfl (lv_at hl 1 rfl) ?_
                refine r_zald hC hH (hL _ mM34) sM34 h dX12_undo_257 (fun h => ?_)
                refine r_zast hC hF hH (hL _ mM23) sM23 h dX12_undo_258 (fun m41 H locs h hH => ?_)
                refine i_inc (lv' := fun x42 => [(1, .int x42), (0, .ref (ad 0))]) hC dX12_undo_259 hl (k := 1) rfl (by decide) (fun _ => rfl) (z := 1) rfl h (fun x42 ls h hl => ?_)
                refine lv_goto (tgt := 217) hC.x hC.b dX12_undo_262 (by decide) ?_
                exact ih36 x42 m41 H locs ls (ap2 es36 h) hH (lv_sub hl [1, 0] rfl)
          exact hl36 _ (0 : Int32) m35 H locs ls h hH (lv_sub hl [1, 0] rfl)
        clear ej29
        have hl30 : ∀ (n : Nat) (x31 : Int32) (m32 : gMem) (H : Heap) (locs : List Loc) (ls : Array Slot), lq2 (s_X12_undo_191 j29) n x31 m32 = some (rv, memz) → gH D cy shM ad L (gA ad L) s.heap m32 H locs → lv_has ls 2 [(0, .ref (ad 0)), (1, .int x31)] → W p l e R s m args below meth c H locs 0 0 Q (F0 m 191 ls []) := by
          intro n
          induction n with
          | zero => intro x31 m32 H locs ls h _ _; exact lq2_0 h
          | succ n ih30 =>
            intro x31 m32 H locs ls h hH hl
            obtain ⟨self30, es30, h⟩ := lq2_s h
            refine lv_iload_n hC.x hC.b dX12_undo_191 rfl (lv_at hl 1 rfl) ?_
            refine lv_bipush (v := 16) hC.x hC.b dX12_undo_192 rfl ?_
            refine b_ic_ge (tgt := 215) hC dX12_undo_194 (by decide) h (fun h => ?_) (fun h => ?_)
            · exact hj29 m32 H locs ls h hH (lv_sub hl [0] rfl)
            · refine lv_aload_n hC.x hC.b dX12_undo_197 rfl (lv_at hl 0 rfl) ?_
              refine r_getc (z := 5) hC hH fl_X12_42_12 (hL _ mM0) sM0 rfl dX12_undo_198 ?_
              refine lv_iload_n hC.x hC.b dX12_undo_201 rfl (lv_at hl 1 rfl) ?_
              refine lv_aload_n hC.x hC.b dX12_undo_202 rfl (lv_at hl 0 rfl) ?_
              refine r_getc (z := 29) hC hH fl_X12_199_12 (hL _ mM0) sM0 rfl dX12_undo_203 ?_
              refine lv_iload_n hC.x hC.b dX12_undo_206 rfl (lv_at hl 1 rfl) ?_
              refine r_iald hC hH (hL _ mM29) sM29 h dX12_undo_207 (fun h => ?_)
              refine r_iast hC hF hH (hL _ mM5) sM5 h dX12_undo_208 (fun m33 H locs h hH => ?_)
              refine i_inc (lv' := fun x34 => [(1, .int x34), (0, .ref (ad 0))]) hC dX12_undo_209 hl (k := 1) rfl (by decide) (fun _ => rfl) (z := 1) rfl h (fun x34 ls h hl => ?_)
              refine lv_goto (tgt := 191) hC.x hC.b dX12_undo_212 (by decide) ?_
              exact ih30 x34 m33 H locs ls (ap2 es30 h) hH (lv_sub hl [1, 0] rfl)
        exact hl30 _ (0 : Int32) m28 H locs ls h hH (lv_sub hl [1, 0] rfl)
      clear ej20
      have hl21 : ∀ (n : Nat) (x22 : Int32) (m23 : gMem) (H : Heap) (locs : List Loc) (ls : Array Slot), lq2 (s_X12_undo_142 j20) n x22 m23 = some (rv, memz) → gH D cy shM ad L (gA ad L) s.heap m23 H locs → lv_has ls 2 [(0, .ref (ad 0)), (1, .int x22)] → W p l e R s m args below meth c H locs 0 0 Q (F0 m 142 ls []) := by
        intro n
        induction n with
        | zero => intro x22 m23 H locs ls h _ _; exact lq2_0 h
        | succ n ih21 =>
          intro x22 m23 H locs ls h hH hl
          obtain ⟨self21, es21, h⟩ := lq2_s h
          refine lv_iload_n hC.x hC.b dX12_undo_142 rfl (lv_at hl 1 rfl) ?_
          refine lv_iconst (v := 4) hC.x hC.b dX12_undo_143 rfl ?_
          refine b_ic_ge (tgt := 189) hC dX12_undo_144 (by decide) h (fun h => ?_) (fun h => ?_)
          · exact hj20 m23 H locs ls h hH (lv_sub hl [0] rfl)
          · refine lv_aload_n hC.x hC.b dX12_undo_147 rfl (lv_at hl 0 rfl) ?_
            refine r_getc (z := 2) hC hH fl_X12_33_12 (hL _ mM0) sM0 rfl dX12_undo_148 ?_
            refine lv_iload_n hC.x hC.b dX12_undo_151 rfl (lv_at hl 1 rfl) ?_
            refine lv_aload_n hC.x hC.b dX12_undo_152 rfl (lv_at hl 0 rfl) ?_
            refine r_getc (z := 26) hC hH fl_X12_190_12 (hL _ mM0) sM0 rfl dX12_undo_153 ?_
            refine lv_iload_n hC.x hC.b dX12_undo_156 rfl (lv_at hl 1 rfl) ?_
            refine r_iald hC hH (hL _ mM26) sM26 h dX12_undo_157 (fun h => ?_)
            refine r_iast hC hF hH (hL _ mM2) sM2 h dX12_undo_158 (fun m24 H locs h hH => ?_)
            refine lv_aload_n hC.x hC.b dX12_undo_159 rfl (lv_at hl 0 rfl) ?_
            refine r_getc (z := 3) hC hH fl_X12_36_12 (hL _ mM0) sM0 rfl dX12_undo_160 ?_
            refine lv_iload_n hC.x hC.b dX12_undo_163 rfl (lv_at hl 1 rfl) ?_
            refine lv_aload_n hC.x hC.b dX12_undo_164 rfl (lv_at hl 0 rfl) ?_
            refine r_getc (z := 27) hC hH fl_X12_193_12 (hL _ mM0) sM0 rfl dX12_undo_165 ?_
            refine lv_iload_n hC.x hC.b dX12_undo_168 rfl (lv_at hl 1 rfl) ?_
            refine r_iald hC hH (hL _ mM27) sM27 h dX12_undo_169 (fun h => ?_)
            refine r_iast hC hF hH (hL _ mM3) sM3 h dX12_undo_170 (fun m25 H locs h hH => ?_)
            refine lv_aload_n hC.x hC.b dX12_undo_171 rfl (lv_at hl 0 rfl) ?_
            refine r_getc (z := 4) hC hH fl_X12_39_12 (hL _ mM0) sM0 rfl dX12_undo_172 ?_
            refine lv_iload_n hC.x hC.b dX12_undo_175 rfl (lv_at hl 1 rfl) ?_
            refine lv_aload_n hC.x hC.b dX12_undo_176 rfl (lv_at hl 0 rfl) ?_
            refine r_getc (z := 28) hC hH fl_X12_196_12 (hL _ mM0) sM0 rfl dX12_undo_177 ?_
            refine lv_iload_n hC.x hC.b dX12_undo_180 rfl (lv_at hl 1 rfl) ?_
            refine r_iald hC hH (hL _ mM28) sM28 h dX12_undo_181 (fun h => ?_)
            refine r_iast hC hF hH (hL _ mM4) sM4 h dX12_undo_182 (fun m26 H locs h hH => ?_)
            refine i_inc (lv' := fun x27 => [(1, .int x27), (0, .ref (ad 0))]) hC dX12_undo_183 hl (k := 1) rfl (by decide) (fun _ => rfl) (z := 1) rfl h (fun x27 ls h hl => ?_)
            refine lv_goto (tgt := 142) hC.x hC.b dX12_undo_186 (by decide) ?_
            exact ih21 x27 m26 H locs ls (ap2 es21 h) hH (lv_sub hl [1, 0] rfl)
      exact hl21 _ (0 : Int32) m19 H locs ls h hH (lv_sub hl [1, 0] rfl)
    clear ej11
    have hl12 : ∀ (n : Nat) (x13 : Int32) (m14 : gMem) (H : Heap) (locs : List Loc) (ls : Array Slot), lq2 (s_X12_undo_92 j11) n x13 m14 = some (rv, memz) → gH D cy shM ad L (gA ad L) s.heap m14 H locs → lv_has ls 2 [(0, .ref (ad 0)), (1, .int x13)] → W p l e R s m args below meth c H locs 0 0 Q (F0 m 92 ls []) := by
      intro n
      induction n with
      | zero => intro x13 m14 H locs ls h _ _; exact lq2_0 h
      | succ n ih12 =>
        intro x13 m14 H locs ls h hH hl
        obtain ⟨self12, es12, h⟩ := lq2_s h
        refine lv_iload_n hC.x hC.b dX12_undo_92 rfl (lv_at hl 1 rfl) ?_
        refine lv_bipush (v := 12) hC.x hC.b dX12_undo_93 rfl ?_
        refine b_ic_ge (tgt := 140) hC dX12_undo_95 (by decide) h (fun h => ?_) (fun h => ?_)
        · exact hj11 m14 H locs ls h hH (lv_sub hl [0] rfl)
        · refine lv_aload_n hC.x hC.b dX12_undo_98 rfl (lv_at hl 0 rfl) ?_
          refine r_getc (z := 1) hC hH fl_X12_29_12 (hL _ mM0) sM0 rfl dX12_undo_99 ?_
          refine lv_iload_n hC.x hC.b dX12_undo_102 rfl (lv_at hl 1 rfl) ?_
          refine lv_aload_n hC.x hC.b dX12_undo_103 rfl (lv_at hl 0 rfl) ?_
          refine r_getc (z := 25) hC hH fl_X12_187_12 (hL _ mM0) sM0 rfl dX12_undo_104 ?_
          refine lv_iload_n hC.x hC.b dX12_undo_107 rfl (lv_at hl 1 rfl) ?_
          refine r_iald hC hH (hL _ mM25) sM25 h dX12_undo_108 (fun h => ?_)
          refine r_iast hC hF hH (hL _ mM1) sM1 h dX12_undo_109 (fun m15 H locs h hH => ?_)
          refine lv_aload_n hC.x hC.b dX12_undo_110 rfl (lv_at hl 0 rfl) ?_
          refine r_getc (z := 16) hC hH fl_X12_106_12 (hL _ mM0) sM0 rfl dX12_undo_111 ?_
          refine lv_iload_n hC.x hC.b dX12_undo_114 rfl (lv_at hl 1 rfl) ?_
          refine lv_aload_n hC.x hC.b dX12_undo_115 rfl (lv_at hl 0 rfl) ?_
          refine r_getc (z := 30) hC hH fl_X12_202_12 (hL _ mM0) sM0 rfl dX12_undo_116 ?_
          refine lv_iload_n hC.x hC.b dX12_undo_119 rfl (lv_at hl 1 rfl) ?_
          refine r_iald hC hH (hL _ mM30) sM30 h dX12_undo_120 (fun h => ?_)
          refine r_iast hC hF hH (hL _ mM16) sM16 h dX12_undo_121 (fun m16 H locs h hH => ?_)
          refine lv_aload_n hC.x hC.b dX12_undo_122 rfl (lv_at hl 0 rfl) ?_
          refine r_getc (z := 24) hC hH fl_X12_151_12 (hL _ mM0) sM0 rfl dX12_undo_123 ?_
          refine lv_iload_n hC.x hC.b dX12_undo_126 rfl (lv_at hl 1 rfl) ?_
          refine lv_aload_n hC.x hC.b dX12_undo_127 rfl (lv_at hl 0 rfl) ?_
          refine r_getc (z := 33) hC hH fl_X12_211_12 (hL _ mM0) sM0 rfl dX12_undo_128 ?_
          refine lv_iload_n hC.x hC.b dX12_undo_131 rfl (lv_at hl 1 rfl) ?_
          refine r_iald hC hH (hL _ mM33) sM33 h dX12_undo_132 (fun h => ?_)
          refine r_iast hC hF hH (hL _ mM24) sM24 h dX12_undo_133 (fun m17 H locs h hH => ?_)
          refine i_inc (lv' := fun x18 => [(1, .int x18), (0, .ref (ad 0))]) hC dX12_undo_134 hl (k := 1) rfl (by decide) (fun _ => rfl) (z := 1) rfl h (fun x18 ls h hl => ?_)
          refine lv_goto (tgt := 92) hC.x hC.b dX12_undo_137 (by decide) ?_
          exact ih12 x18 m17 H locs ls (ap2 es12 h) hH (lv_sub hl [1, 0] rfl)
    exact hl12 _ (0 : Int32) m10 H locs ls h hH (lv_sub hl [1, 0] rfl)
  · refine lv_bipush (v := -3) hC.x hC.b dX12_undo_7 rfl ?_
    rw [hQ]
    exact e_i hC hr hH h dX12_undo_9
theorem fl_X12_217_12 : gFl RX12 217 12 68 := ⟨RX12, TX12, 74, "OnTiptoeModel", rfl, inW12, by decide, kw145, Or.inl rfl⟩
theorem fl_X12_220_12 : gFl RX12 220 12 69 := ⟨RX12, TX12, 74, "OnTiptoeModel", rfl, inW12, by decide, kw146, Or.inl rfl⟩
theorem pl_X12_217_12 : gPl RX12 217 12 68 "I" := ⟨RX12, TX12, 74, tyX12, "OnTiptoeModel", rfl, inW12, tyX12_ok, nmX12, by decide, kw145, Or.inl rfl, rfl, rfl⟩
def f_X12_body (mem : gMem) (p0 : Int32) : Option gMem := jn ((fun (m3 : gMem) => lt1 (gsI m3 0 68 ((gI m3 0 68) + (1 : Int32))) fun (m4 : gMem) => some m4) : gMem → Option gMem) fun j1 => if (20 : Int32) ≤ (gI mem 0 68) then ((j1 mem)) else if okI (gI mem 0 68) 20 then lt1 (gsI mem 35 (ix (gI mem 0 68)) p0) fun (m2 : gMem) => (j1 m2) else none
set_option maxRecDepth 100000 in
set_option maxHeartbeats 4000000 in
theorem c_X12_body {l : Launch} {E : State → Prop} {D : va_G} {cy : Nat → ClassId} {ad : Nat → Nat} {L : List Nat} {mem : gMem} {p0 : Int32} {memz : gMem} (hk : gOk ad L) (hL : ∀ o ∈ LM0, o ∈ L) (hE : gEok ad L E)  (h : f_X12_body mem p0 = some memz) : gMet l yX12_body cX12_body 2 none 0 0 E D cy shM ad L [.ref (ad 0), .int p0] mem memz none := by
  refine g_go (own := RX12) (by decide +kernel) rfl hE (Nat.le_of_ble_eq_true rfl) ?_
  intro p e s m args below meth c R Q hargs hR hQ hEs hC hr hX H locs ls hH hl
  have hF := gF_of hk
  have hl : lv_has ls 2 [(0, .ref (ad 0)), (1, .int p0)] := hl
  refine lv_aload_n hC.x hC.b dX12_body_0 rfl (lv_at hl 0 rfl) ?_
  refine r_geti hC hH fl_X12_217_12 (hL _ mM0) sM0 rfl dX12_body_1 ?_
  refine lv_bipush (v := 20) hC.x hC.b dX12_body_4 rfl ?_
  obtain ⟨j1, ej1, h⟩ := jn_e h
  have hj1 : ∀ (m3 : gMem) (H : Heap) (locs : List Loc) (ls : Array Slot), (j1 m3) = some memz → gH D cy shM ad L (gA ad L) s.heap m3 H locs → lv_has ls 2 [(0, .ref (ad 0))] → W p l e R s m args below meth c H locs 0 0 Q (F0 m 19 ls []) := by
    intro m3 H locs ls h hH hl
    have h := ap1 ej1 h
    refine lv_aload_n hC.x hC.b dX12_body_19 rfl (lv_at hl 0 rfl) ?_
    refine lv_dup hC.x hC.b dX12_body_20 rfl ?_
    refine r_geti hC hH fl_X12_217_12 (hL _ mM0) sM0 rfl dX12_body_21 ?_
    refine lv_iconst (v := 1) hC.x hC.b dX12_body_24 rfl ?_
    refine lv_iadd hC.x hC.b dX12_body_25 ?_
    refine r_puti hC hF hH pl_X12_217_12 (hL _ mM0) sM0 rfl h dX12_body_26 (fun m4 H locs h hH => ?_)
    rw [hQ]
    exact e_v hC hr hH h dX12_body_29
  clear ej1
  refine b_ic_ge (tgt := 19) hC dX12_body_6 (by decide) h (fun h => ?_) (fun h => ?_)
  · exact hj1 mem H locs ls h hH (lv_sub hl [0] rfl)
  · refine lv_aload_n hC.x hC.b dX12_body_9 rfl (lv_at hl 0 rfl) ?_
    refine r_getc (z := 35) hC hH fl_X12_220_12 (hL _ mM0) sM0 rfl dX12_body_10 ?_
    refine lv_aload_n hC.x hC.b dX12_body_13 rfl (lv_at hl 0 rfl) ?_
    refine r_geti hC hH fl_X12_217_12 (hL _ mM0) sM0 rfl dX12_body_14 ?_
    refine lv_iload_n hC.x hC.b dX12_body_17 rfl (lv_at hl 1 rfl) ?_
    refine r_iast hC hF hH (hL _ mM35) sM35 h dX12_body_18 (fun m2 H locs h hH => ?_)
    exact hj1 m2 H locs ls h hH (lv_sub hl [0] rfl)
theorem fl_X12_45_12 : gFl RX12 45 12 11 := ⟨RX12, TX12, 74, "OnTiptoeModel", rfl, inW12, by decide, kw87, Or.inl rfl⟩
def f_X12_count (mem : gMem) (p0 : Int32) : Option Int32 := if p0 = 0 then (some (gI mem 0 0)) else if p0 = 1 then (some (gI mem 0 11)) else if p0 = 2 then (some (gI mem 0 30)) else if p0 = 3 then (some (gI mem 0 41)) else if p0 = 4 then (some (gI mem 0 45)) else if p0 = 5 then (some (gI mem 0 13)) else if p0 = 6 then (some (gI mem 0 68)) else some (-2 : Int32)
set_option maxRecDepth 100000 in
set_option maxHeartbeats 4000000 in
theorem c_X12_count {l : Launch} {E : State → Prop} {D : va_G} {cy : Nat → ClassId} {ad : Nat → Nat} {L : List Nat} {mem : gMem} {p0 : Int32} {rv : Int32} (hk : gOk ad L) (hL : ∀ o ∈ LM0, o ∈ L) (hE : gEok ad L E)  (h : f_X12_count mem p0 = some rv) : gMet l yX12_count cX12_count 2 (some .int) 0 0 E D cy shM ad L [.ref (ad 0), .int p0] mem mem (some (.int rv)) := by
  refine g_go (own := RX12) (by decide +kernel) rfl hE (Nat.le_of_ble_eq_true rfl) ?_
  intro p e s m args below meth c R Q hargs hR hQ hEs hC hr hX H locs ls hH hl
  have hF := gF_of hk
  have hl : lv_has ls 2 [(0, .ref (ad 0)), (1, .int p0)] := hl
  refine lv_iload_n hC.x hC.b dX12_count_0 rfl (lv_at hl 1 rfl) ?_
  by_cases hx0 : p0 = 0
  · have h := ifp hx0 h
    refine lv_tableIn (off := 43) (tgt := 44) hC.x hC.b dX12_count_1 (by rw [hx0]; decide) (by rw [hx0]; decide) (by rw [hx0]; rfl) (by decide) ?_
    refine lv_aload_n hC.x hC.b dX12_count_44 rfl (lv_at hl 0 rfl) ?_
    refine r_geti hC hH fl_X12_7_12 (hL _ mM0) sM0 rfl dX12_count_45 ?_
    rw [hQ]
    exact e_ir hC hr hH h dX12_count_48
  have h := ifn hx0 h
  by_cases hx1 : p0 = 1
  · have h := ifp hx1 h
    refine lv_tableIn (off := 48) (tgt := 49) hC.x hC.b dX12_count_1 (by rw [hx1]; decide) (by rw [hx1]; decide) (by rw [hx1]; rfl) (by decide) ?_
    refine lv_aload_n hC.x hC.b dX12_count_49 rfl (lv_at hl 0 rfl) ?_
    refine r_geti hC hH fl_X12_45_12 (hL _ mM0) sM0 rfl dX12_count_50 ?_
    rw [hQ]
    exact e_ir hC hr hH h dX12_count_53
  have h := ifn hx1 h
  by_cases hx2 : p0 = 2
  · have h := ifp hx2 h
    refine lv_tableIn (off := 53) (tgt := 54) hC.x hC.b dX12_count_1 (by rw [hx2]; decide) (by rw [hx2]; decide) (by rw [hx2]; rfl) (by decide) ?_
    refine lv_aload_n hC.x hC.b dX12_count_54 rfl (lv_at hl 0 rfl) ?_
    refine r_geti hC hH fl_X12_103_12 (hL _ mM0) sM0 rfl dX12_count_55 ?_
    rw [hQ]
    exact e_ir hC hr hH h dX12_count_58
  have h := ifn hx2 h
  by_cases hx3 : p0 = 3
  · have h := ifp hx3 h
    refine lv_tableIn (off := 58) (tgt := 59) hC.x hC.b dX12_count_1 (by rw [hx3]; decide) (by rw [hx3]; decide) (by rw [hx3]; rfl) (by decide) ?_
    refine lv_aload_n hC.x hC.b dX12_count_59 rfl (lv_at hl 0 rfl) ?_
    refine r_geti hC hH fl_X12_136_12 (hL _ mM0) sM0 rfl dX12_count_60 ?_
    rw [hQ]
    exact e_ir hC hr hH h dX12_count_63
  have h := ifn hx3 h
  by_cases hx4 : p0 = 4
  · have h := ifp hx4 h
    refine lv_tableIn (off := 63) (tgt := 64) hC.x hC.b dX12_count_1 (by rw [hx4]; decide) (by rw [hx4]; decide) (by rw [hx4]; rfl) (by decide) ?_
    refine lv_aload_n hC.x hC.b dX12_count_64 rfl (lv_at hl 0 rfl) ?_
    refine r_geti hC hH fl_X12_148_12 (hL _ mM0) sM0 rfl dX12_count_65 ?_
    rw [hQ]
    exact e_ir hC hr hH h dX12_count_68
  have h := ifn hx4 h
  by_cases hx5 : p0 = 5
  · have h := ifp hx5 h
    refine lv_tableIn (off := 68) (tgt := 69) hC.x hC.b dX12_count_1 (by rw [hx5]; decide) (by rw [hx5]; decide) (by rw [hx5]; rfl) (by decide) ?_
    refine lv_aload_n hC.x hC.b dX12_count_69 rfl (lv_at hl 0 rfl) ?_
    refine r_geti hC hH fl_X12_51_12 (hL _ mM0) sM0 rfl dX12_count_70 ?_
    rw [hQ]
    exact e_ir hC hr hH h dX12_count_73
  have h := ifn hx5 h
  by_cases hx6 : p0 = 6
  · have h := ifp hx6 h
    refine lv_tableIn (off := 73) (tgt := 74) hC.x hC.b dX12_count_1 (by rw [hx6]; decide) (by rw [hx6]; decide) (by rw [hx6]; rfl) (by decide) ?_
    refine lv_aload_n hC.x hC.b dX12_count_74 rfl (lv_at hl 0 rfl) ?_
    refine r_geti hC hH fl_X12_217_12 (hL _ mM0) sM0 rfl dX12_count_75 ?_
    rw [hQ]
    exact e_ir hC hr hH h dX12_count_78
  have h := ifn hx6 h
  refine lv_tableOut (tgt := 79) hC.x hC.b dX12_count_1 (by have a0 := ne_ti (v := 0) (z := 0) rfl hx0; have a1 := ne_ti (v := 1) (z := 1) rfl hx1; have a2 := ne_ti (v := 2) (z := 2) rfl hx2; have a3 := ne_ti (v := 3) (z := 3) rfl hx3; have a4 := ne_ti (v := 4) (z := 4) rfl hx4; have a5 := ne_ti (v := 5) (z := 5) rfl hx5; have a6 := ne_ti (v := 6) (z := 6) rfl hx6; omega) (by decide) ?_
  refine lv_bipush (v := -2) hC.x hC.b dX12_count_79 rfl ?_
  rw [hQ]
  exact e_ir hC hr hH h dX12_count_81
def f_X12_narrow (p0 : Int32) (p1 : Int64) : Option Int64 := if p0 = 0 then (some (((p1.toInt32).toInt8.toInt32).toInt64)) else if p0 = (1 : Int32) then (some (((p1.toInt32).toInt16.toInt32).toInt64)) else if p0 = (2 : Int32) then (some ((p1.toInt32).toInt64)) else if p0 = (4 : Int32) then (if (lg_cmp p1 (0 : Int64)) = 0 then (some (0 : Int64)) else some (1 : Int64)) else some p1
set_option maxRecDepth 100000 in
set_option maxHeartbeats 4000000 in
theorem c_X12_narrow {l : Launch} {E : State → Prop} {D : va_G} {cy : Nat → ClassId} {ad : Nat → Nat} {L : List Nat} {mem : gMem} {p0 : Int32} {p1 : Int64} {rv : Int64} (hk : gOk ad L) (hL : ∀ o ∈ LM0, o ∈ L) (hE : gEok ad L E)  (h : f_X12_narrow p0 p1 = some rv) : gMet l yX12_narrow cX12_narrow 4 (some .long) 0 0 E D cy shM ad L [.ref (ad 0), .int p0, .long p1] mem mem (some (.long rv)) := by
  refine g_go (own := RX12) (by decide +kernel) rfl hE (Nat.le_of_ble_eq_true rfl) ?_
  intro p e s m args below meth c R Q hargs hR hQ hEs hC hr hX H locs ls hH hl
  have hF := gF_of hk
  have hl : lv_has ls 4 [(0, .ref (ad 0)), (1, .int p0), (2, .long p1)] := hl
  refine lv_iload_n hC.x hC.b dX12_narrow_0 rfl (lv_at hl 1 rfl) ?_
  refine b_if_ne (tgt := 11) hC dX12_narrow_1 (by decide) h (fun h => ?_) (fun h => ?_)
  · refine lv_iload_n hC.x hC.b dX12_narrow_11 rfl (lv_at hl 1 rfl) ?_
    refine lv_iconst (v := 1) hC.x hC.b dX12_narrow_12 rfl ?_
    refine b_ic_ne (tgt := 23) hC dX12_narrow_13 (by decide) h (fun h => ?_) (fun h => ?_)
    · refine lv_iload_n hC.x hC.b dX12_narrow_23 rfl (lv_at hl 1 rfl) ?_
      refine lv_iconst (v := 2) hC.x hC.b dX12_narrow_24 rfl ?_
      refine b_ic_ne (tgt := 34) hC dX12_narrow_25 (by decide) h (fun h => ?_) (fun h => ?_)
      · refine lv_iload_n hC.x hC.b dX12_narrow_34 rfl (lv_at hl 1 rfl) ?_
        refine lv_iconst (v := 4) hC.x hC.b dX12_narrow_35 rfl ?_
        refine b_ic_ne (tgt := 53) hC dX12_narrow_36 (by decide) h (fun h => ?_) (fun h => ?_)
        · refine lv_lload_n hC.x hC.b dX12_narrow_53 rfl (lv_at hl 2 rfl) ?_
          rw [hQ]
          exact e_lr hC hr hH h dX12_narrow_54
        · refine lv_lload_n hC.x hC.b dX12_narrow_39 rfl (lv_at hl 2 rfl) ?_
          refine lv_lconst (v := 0) hC.x hC.b dX12_narrow_40 rfl ?_
          refine W.lcmp hC.x hC.b dX12_narrow_41 ?_
          refine b_if_eq (tgt := 49) hC dX12_narrow_42 (by decide) h (fun h => ?_) (fun h => ?_)
          · refine lv_lconst (v := 0) hC.x hC.b dX12_narrow_49 rfl ?_
            refine lv_goto (tgt := 54) hC.x hC.b dX12_narrow_50 (by decide) ?_
            rw [hQ]
            exact e_lr hC hr hH h dX12_narrow_54
          · refine lv_lconst (v := 1) hC.x hC.b dX12_narrow_45 rfl ?_
            refine lv_goto (tgt := 54) hC.x hC.b dX12_narrow_46 (by decide) ?_
            rw [hQ]
            exact e_lr hC hr hH h dX12_narrow_54
      · refine lv_lload_n hC.x hC.b dX12_narrow_28 rfl (lv_at hl 2 rfl) ?_
        refine lv_l2i hC.x hC.b dX12_narrow_29 rfl ?_
        refine lv_i2l hC.x hC.b dX12_narrow_30 rfl ?_
        refine lv_goto (tgt := 54) hC.x hC.b dX12_narrow_31 (by decide) ?_
        rw [hQ]
        exact e_lr hC hr hH h dX12_narrow_54
    · refine lv_lload_n hC.x hC.b dX12_narrow_16 rfl (lv_at hl 2 rfl) ?_
      refine lv_l2i hC.x hC.b dX12_narrow_17 rfl ?_
      refine lv_i2s hC.x hC.b dX12_narrow_18 rfl ?_
      refine lv_i2l hC.x hC.b dX12_narrow_19 rfl ?_
      refine lv_goto (tgt := 54) hC.x hC.b dX12_narrow_20 (by decide) ?_
      rw [hQ]
      exact e_lr hC hr hH h dX12_narrow_54
  · refine lv_lload_n hC.x hC.b dX12_narrow_4 rfl (lv_at hl 2 rfl) ?_
    refine lv_l2i hC.x hC.b dX12_narrow_5 rfl ?_
    refine lv_i2b hC.x hC.b dX12_narrow_6 rfl ?_
    refine lv_i2l hC.x hC.b dX12_narrow_7 rfl ?_
    refine lv_goto (tgt := 54) hC.x hC.b dX12_narrow_8 (by decide) ?_
    rw [hQ]
    exact e_lr hC hr hH h dX12_narrow_54
theorem a_X12_in : noMH yX12_in.cls ∧ arity yX12_in.desc 3 := by decide +kernel
def f_X12_isBoard (p0 : Int32) : Option Int32 := bd (f_X12_in p0 (0 : Int32) (11 : Int32)) fun (x1 : Int32) => if isB x1 then some x1 else none
set_option maxRecDepth 100000 in
set_option maxHeartbeats 4000000 in
theorem c_X12_isBoard {l : Launch} {E : State → Prop} {D : va_G} {cy : Nat → ClassId} {ad : Nat → Nat} {L : List Nat} {mem : gMem} {p0 : Int32} {rv : Int32} (hk : gOk ad L) (hL : ∀ o ∈ LM0, o ∈ L) (hE : gEok ad L E)  (h : f_X12_isBoard p0 = some rv) : gMet l yX12_isBoard cX12_isBoard 2 (some .boolean) 1 23 E D cy shM ad L [.ref (ad 0), .int p0] mem mem (some (.int rv)) := by
  refine g_go (own := RX12) (by decide +kernel) rfl hE (Nat.le_of_ble_eq_true rfl) ?_
  intro p e s m args below meth c R Q hargs hR hQ hEs hC hr hX H locs ls hH hl
  have hF := gF_of hk
  have hl : lv_has ls 2 [(0, .ref (ad 0)), (1, .int p0)] := hl
  refine lv_aload_n hC.x hC.b dX12_isBoard_0 rfl (lv_at hl 0 rfl) ?_
  refine lv_iload_n hC.x hC.b dX12_isBoard_1 rfl (lv_at hl 1 rfl) ?_
  refine lv_iconst (v := 0) hC.x hC.b dX12_isBoard_2 rfl ?_
  refine lv_bipush (v := 11) hC.x hC.b dX12_isBoard_3 rfl ?_
  obtain ⟨x1, hf1, h⟩ := bd_e h
  refine c_V1 (As := [.int p0, .int (0 : Int32), .int (11 : Int32)]) (rest := []) (o := 0) (q := (RX12, TX12, 74)) hC hX hE.2.1 hF hH (c_X12_in (l := l) hk hL hE hf1) kw167 kw168 kw169 kw5 kw170 a_X12_in.1 a_X12_in.2 (hL _ mM0) sM0 rfl rfl hl.1 (rmk hR (by decide) (by decide)) (Nat.le_of_ble_eq_true rfl) dX12_isBoard_5 (fun H locs hH => ?_)
  rw [hQ]
  exact e_zr hC hr hH h dX12_isBoard_8
def f_X12_isWalker (mem : gMem) (p0 : Int32) : Option Int32 := bd (f_X12_in p0 (0 : Int32) ((gI mem 0 0) - (1 : Int32))) fun (x1 : Int32) => if isB x1 then some x1 else none
set_option maxRecDepth 100000 in
set_option maxHeartbeats 4000000 in
theorem c_X12_isWalker {l : Launch} {E : State → Prop} {D : va_G} {cy : Nat → ClassId} {ad : Nat → Nat} {L : List Nat} {mem : gMem} {p0 : Int32} {rv : Int32} (hk : gOk ad L) (hL : ∀ o ∈ LM0, o ∈ L) (hE : gEok ad L E)  (h : f_X12_isWalker mem p0 = some rv) : gMet l yX12_isWalker cX12_isWalker 2 (some .boolean) 1 23 E D cy shM ad L [.ref (ad 0), .int p0] mem mem (some (.int rv)) := by
  refine g_go (own := RX12) (by decide +kernel) rfl hE (Nat.le_of_ble_eq_true rfl) ?_
  intro p e s m args below meth c R Q hargs hR hQ hEs hC hr hX H locs ls hH hl
  have hF := gF_of hk
  have hl : lv_has ls 2 [(0, .ref (ad 0)), (1, .int p0)] := hl
  refine lv_aload_n hC.x hC.b dX12_isWalker_0 rfl (lv_at hl 0 rfl) ?_
  refine lv_iload_n hC.x hC.b dX12_isWalker_1 rfl (lv_at hl 1 rfl) ?_
  refine lv_iconst (v := 0) hC.x hC.b dX12_isWalker_2 rfl ?_
  refine lv_aload_n hC.x hC.b dX12_isWalker_3 rfl (lv_at hl 0 rfl) ?_
  refine r_geti hC hH fl_X12_7_12 (hL _ mM0) sM0 rfl dX12_isWalker_4 ?_
  refine lv_iconst (v := 1) hC.x hC.b dX12_isWalker_7 rfl ?_
  refine lv_isub hC.x hC.b dX12_isWalker_8 ?_
  obtain ⟨x1, hf1, h⟩ := bd_e h
  refine c_V1 (As := [.int p0, .int (0 : Int32), .int ((gI mem 0 0) - (1 : Int32))]) (rest := []) (o := 0) (q := (RX12, TX12, 74)) hC hX hE.2.1 hF hH (c_X12_in (l := l) hk hL hE hf1) kw167 kw168 kw169 kw5 kw170 a_X12_in.1 a_X12_in.2 (hL _ mM0) sM0 rfl rfl hl.1 (rmk hR (by decide) (by decide)) (Nat.le_of_ble_eq_true rfl) dX12_isWalker_9 (fun H locs hH => ?_)
  rw [hQ]
  exact e_zr hC hr hH h dX12_isWalker_12
theorem a_X12_apart : noMH yX12_apart.cls ∧ arity yX12_apart.desc 2 := by decide +kernel
def f_X12_areBeside (p0 : Int32) (p1 : Int32) : Option Int32 := bd (f_X12_apart (p0 - p0 / (6 : Int32) * (6 : Int32)) (p1 - p1 / (6 : Int32) * (6 : Int32))) fun (x1 : Int32) => bd (f_X12_apart (p0 / (6 : Int32)) (p1 / (6 : Int32))) fun (x2 : Int32) => if (x1 + x2) = (1 : Int32) then (some (1 : Int32)) else some (0 : Int32)
set_option maxRecDepth 100000 in
set_option maxHeartbeats 4000000 in
theorem c_X12_areBeside {l : Launch} {E : State → Prop} {D : va_G} {cy : Nat → ClassId} {ad : Nat → Nat} {L : List Nat} {mem : gMem} {p0 : Int32} {p1 : Int32} {rv : Int32} (hk : gOk ad L) (hL : ∀ o ∈ LM0, o ∈ L) (hE : gEok ad L E)  (h : f_X12_areBeside p0 p1 = some rv) : gMet l yX12_areBeside cX12_areBeside 3 (some .boolean) 1 22 E D cy shM ad L [.ref (ad 0), .int p0, .int p1] mem mem (some (.int rv)) := by
  refine g_go (own := RX12) (by decide +kernel) rfl hE (Nat.le_of_ble_eq_true rfl) ?_
  intro p e s m args below meth c R Q hargs hR hQ hEs hC hr hX H locs ls hH hl
  have hF := gF_of hk
  have hl : lv_has ls 3 [(0, .ref (ad 0)), (1, .int p0), (2, .int p1)] := hl
  refine lv_aload_n hC.x hC.b dX12_areBeside_0 rfl (lv_at hl 0 rfl) ?_
  refine lv_iload_n hC.x hC.b dX12_areBeside_1 rfl (lv_at hl 1 rfl) ?_
  refine lv_bipush (v := 6) hC.x hC.b dX12_areBeside_2 rfl ?_
  refine lv_irem hC.x hC.b dX12_areBeside_4 (by decide) ?_
  refine lv_iload_n hC.x hC.b dX12_areBeside_5 rfl (lv_at hl 2 rfl) ?_
  refine lv_bipush (v := 6) hC.x hC.b dX12_areBeside_6 rfl ?_
  refine lv_irem hC.x hC.b dX12_areBeside_8 (by decide) ?_
  obtain ⟨x1, hf1, h⟩ := bd_e h
  refine c_V1 (As := [.int (p0 - p0 / (6 : Int32) * (6 : Int32)), .int (p1 - p1 / (6 : Int32) * (6 : Int32))]) (rest := []) (o := 0) (q := (RX12, TX12, 74)) hC hX hE.2.1 hF hH (c_X12_apart (l := l) hk hL hE hf1) kw751 kw752 kw753 kw5 kw754 a_X12_apart.1 a_X12_apart.2 (hL _ mM0) sM0 rfl rfl hl.1 (rmk hR (by decide) (by decide)) (Nat.le_of_ble_eq_true rfl) dX12_areBeside_9 (fun H locs hH => ?_)
  refine lv_aload_n hC.x hC.b dX12_areBeside_12 rfl (lv_at hl 0 rfl) ?_
  refine lv_iload_n hC.x hC.b dX12_areBeside_13 rfl (lv_at hl 1 rfl) ?_
  refine lv_bipush (v := 6) hC.x hC.b dX12_areBeside_14 rfl ?_
  refine lv_idiv hC.x hC.b dX12_areBeside_16 (by decide) ?_
  refine lv_iload_n hC.x hC.b dX12_areBeside_17 rfl (lv_at hl 2 rfl) ?_
  refine lv_bipush (v := 6) hC.x hC.b dX12_areBeside_18 rfl ?_
  refine lv_idiv hC.x hC.b dX12_areBeside_20 (by decide) ?_
  obtain ⟨x2, hf2, h⟩ := bd_e h
  refine c_V1 (As := [.int (p0 / (6 : Int32)), .int (p1 / (6 : Int32))]) (rest := [.int x1]) (o := 0) (q := (RX12, TX12, 74)) hC hX hE.2.1 hF hH (c_X12_apart (l := l) hk hL hE hf2) kw751 kw752 kw753 kw5 kw754 a_X12_apart.1 a_X12_apart.2 (hL _ mM0) sM0 rfl rfl hl.1 (rmk hR (by decide) (by decide)) (Nat.le_of_ble_eq_true rfl) dX12_areBeside_21 (fun H locs hH => ?_)
  refine lv_iadd hC.x hC.b dX12_areBeside_24 ?_
  refine lv_iconst (v := 1) hC.x hC.b dX12_areBeside_25 rfl ?_
  refine b_ic_ne (tgt := 33) hC dX12_areBeside_26 (by decide) h (fun h => ?_) (fun h => ?_)
  · refine lv_iconst (v := 0) hC.x hC.b dX12_areBeside_33 rfl ?_
    rw [hQ]
    exact e_nr hC hr rfl hH h dX12_areBeside_34
  · refine lv_iconst (v := 1) hC.x hC.b dX12_areBeside_29 rfl ?_
    refine lv_goto (tgt := 34) hC.x hC.b dX12_areBeside_30 (by decide) ?_
    rw [hQ]
    exact e_nr hC hr rfl hH h dX12_areBeside_34
theorem pl_X12_51_12 : gPl RX12 51 12 13 "I" := ⟨RX12, TX12, 74, tyX12, "OnTiptoeModel", rfl, inW12, tyX12_ok, nmX12, by decide, kw89, Or.inl rfl, rfl, rfl⟩
def f_X12_feed (mem : gMem) (p0 : Int32) : Option (Int32 × gMem) := bd (f_X12_in p0 (0 : Int32) (127 : Int32)) fun (x1 : Int32) => if x1 = 0 then (some ((-2 : Int32), mem)) else if (gI mem 0 13) = (100 : Int32) then (some ((-4 : Int32), mem)) else if okI (gI mem 0 13) 100 then lt1 (gsI mem 6 (ix (gI mem 0 13)) p0) fun (m2 : gMem) => lt1 (gsI m2 0 13 ((gI m2 0 13) + (1 : Int32))) fun (m3 : gMem) => some ((gI m3 0 13), m3) else none
set_option maxRecDepth 100000 in
set_option maxHeartbeats 4000000 in
theorem c_X12_feed {l : Launch} {E : State → Prop} {D : va_G} {cy : Nat → ClassId} {ad : Nat → Nat} {L : List Nat} {mem : gMem} {p0 : Int32} {rv : Int32} {memz : gMem} (hk : gOk ad L) (hL : ∀ o ∈ LM0, o ∈ L) (hE : gEok ad L E)  (h : f_X12_feed mem p0 = some (rv, memz)) : gMet l yX12_feed cX12_feed 2 (some .int) 1 23 E D cy shM ad L [.ref (ad 0), .int p0] mem memz (some (.int rv)) := by
  refine g_go (own := RX12) (by decide +kernel) rfl hE (Nat.le_of_ble_eq_true rfl) ?_
  intro p e s m args below meth c R Q hargs hR hQ hEs hC hr hX H locs ls hH hl
  have hF := gF_of hk
  have hl : lv_has ls 2 [(0, .ref (ad 0)), (1, .int p0)] := hl
  refine lv_aload_n hC.x hC.b dX12_feed_0 rfl (lv_at hl 0 rfl) ?_
  refine lv_iload_n hC.x hC.b dX12_feed_1 rfl (lv_at hl 1 rfl) ?_
  refine lv_iconst (v := 0) hC.x hC.b dX12_feed_2 rfl ?_
  refine lv_bipush (v := 127) hC.x hC.b dX12_feed_3 rfl ?_
  obtain ⟨x1, hf1, h⟩ := bd_e h
  refine c_V1 (As := [.int p0, .int (0 : Int32), .int (127 : Int32)]) (rest := []) (o := 0) (q := (RX12, TX12, 74)) hC hX hE.2.1 hF hH (c_X12_in (l := l) hk hL hE hf1) kw167 kw168 kw169 kw5 kw170 a_X12_in.1 a_X12_in.2 (hL _ mM0) sM0 rfl rfl hl.1 (rmk hR (by decide) (by decide)) (Nat.le_of_ble_eq_true rfl) dX12_feed_5 (fun H locs hH => ?_)
  refine b_if_ne (tgt := 14) hC dX12_feed_8 (by decide) h (fun h => ?_) (fun h => ?_)
  · refine lv_aload_n hC.x hC.b dX12_feed_14 rfl (lv_at hl 0 rfl) ?_
    refine r_geti hC hH fl_X12_51_12 (hL _ mM0) sM0 rfl dX12_feed_15 ?_
    refine lv_bipush (v := 100) hC.x hC.b dX12_feed_18 rfl ?_
    refine b_ic_ne (tgt := 26) hC dX12_feed_20 (by decide) h (fun h => ?_) (fun h => ?_)
    · refine lv_aload_n hC.x hC.b dX12_feed_26 rfl (lv_at hl 0 rfl) ?_
      refine r_getc (z := 6) hC hH fl_X12_60_12 (hL _ mM0) sM0 rfl dX12_feed_27 ?_
      refine lv_aload_n hC.x hC.b dX12_feed_30 rfl (lv_at hl 0 rfl) ?_
      refine r_geti hC hH fl_X12_51_12 (hL _ mM0) sM0 rfl dX12_feed_31 ?_
      refine lv_iload_n hC.x hC.b dX12_feed_34 rfl (lv_at hl 1 rfl) ?_
      refine r_iast hC hF hH (hL _ mM6) sM6 h dX12_feed_35 (fun m2 H locs h hH => ?_)
      refine lv_aload_n hC.x hC.b dX12_feed_36 rfl (lv_at hl 0 rfl) ?_
      refine lv_dup hC.x hC.b dX12_feed_37 rfl ?_
      refine r_geti hC hH fl_X12_51_12 (hL _ mM0) sM0 rfl dX12_feed_38 ?_
      refine lv_iconst (v := 1) hC.x hC.b dX12_feed_41 rfl ?_
      refine lv_iadd hC.x hC.b dX12_feed_42 ?_
      refine r_puti hC hF hH pl_X12_51_12 (hL _ mM0) sM0 rfl h dX12_feed_43 (fun m3 H locs h hH => ?_)
      refine lv_aload_n hC.x hC.b dX12_feed_46 rfl (lv_at hl 0 rfl) ?_
      refine r_geti hC hH fl_X12_51_12 (hL _ mM0) sM0 rfl dX12_feed_47 ?_
      rw [hQ]
      exact e_i hC hr hH h dX12_feed_50
    · refine lv_bipush (v := -4) hC.x hC.b dX12_feed_23 rfl ?_
      rw [hQ]
      exact e_i hC hr hH h dX12_feed_25
  · refine lv_bipush (v := -2) hC.x hC.b dX12_feed_11 rfl ?_
    rw [hQ]
    exact e_i hC hr hH h dX12_feed_13
theorem a_X12_next : noMH yX12_next.cls ∧ arity yX12_next.desc 0 := by decide +kernel
theorem pl_X12_54_12 : gPl RX12 54 12 14 "I" := ⟨RX12, TX12, 74, tyX12, "OnTiptoeModel", rfl, inW12, tyX12_ok, nmX12, by decide, kw90, Or.inl rfl, rfl, rfl⟩
def f_X12_takes (mem : gMem) (p0 : Int32) : Option (Int32 × gMem) := bd (f_X12_next mem) fun (x1 : Int32) => if x1 = p0 then (lt1 (gsI mem 0 14 ((gI mem 0 14) + (1 : Int32))) fun (m2 : gMem) => some ((1 : Int32), m2)) else some ((0 : Int32), mem)
set_option maxRecDepth 100000 in
set_option maxHeartbeats 4000000 in
theorem c_X12_takes {l : Launch} {E : State → Prop} {D : va_G} {cy : Nat → ClassId} {ad : Nat → Nat} {L : List Nat} {mem : gMem} {p0 : Int32} {rv : Int32} {memz : gMem} (hk : gOk ad L) (hL : ∀ o ∈ LM0, o ∈ L) (hE : gEok ad L E)  (h : f_X12_takes mem p0 = some (rv, memz)) : gMet l yX12_takes cX12_takes 2 (some .boolean) 1 20 E D cy shM ad L [.ref (ad 0), .int p0] mem memz (some (.int rv)) := by
  refine g_go (own := RX12) (by decide +kernel) rfl hE (Nat.le_of_ble_eq_true rfl) ?_
  intro p e s m args below meth c R Q hargs hR hQ hEs hC hr hX H locs ls hH hl
  have hF := gF_of hk
  have hl : lv_has ls 2 [(0, .ref (ad 0)), (1, .int p0)] := hl
  refine lv_aload_n hC.x hC.b dX12_takes_0 rfl (lv_at hl 0 rfl) ?_
  obtain ⟨x1, hf1, h⟩ := bd_e h
  refine c_V1 (As := []) (rest := []) (o := 0) (q := (RX12, TX12, 74)) hC hX hE.2.1 hF hH (c_X12_next (l := l) hk hL hE hf1) kw645 kw646 kw647 kw5 kw648 a_X12_next.1 a_X12_next.2 (hL _ mM0) sM0 rfl rfl hl.1 (rmk hR (by decide) (by decide)) (Nat.le_of_ble_eq_true rfl) dX12_takes_1 (fun H locs hH => ?_)
  refine lv_iload_n hC.x hC.b dX12_takes_4 rfl (lv_at hl 1 rfl) ?_
  refine b_ic_eq (tgt := 10) hC dX12_takes_5 (by decide) h (fun h => ?_) (fun h => ?_)
  · refine lv_aload_n hC.x hC.b dX12_takes_10 rfl (lv_at hl 0 rfl) ?_
    refine lv_dup hC.x hC.b dX12_takes_11 rfl ?_
    refine r_geti hC hH fl_X12_54_12 (hL _ mM0) sM0 rfl dX12_takes_12 ?_
    refine lv_iconst (v := 1) hC.x hC.b dX12_takes_15 rfl ?_
    refine lv_iadd hC.x hC.b dX12_takes_16 ?_
    refine r_puti hC hF hH pl_X12_54_12 (hL _ mM0) sM0 rfl h dX12_takes_17 (fun m2 H locs h hH => ?_)
    refine lv_iconst (v := 1) hC.x hC.b dX12_takes_20 rfl ?_
    rw [hQ]
    exact e_n hC hr rfl hH h dX12_takes_21
  · refine lv_iconst (v := 0) hC.x hC.b dX12_takes_8 rfl ?_
    rw [hQ]
    exact e_n hC hr rfl hH h dX12_takes_9
def f_X12_isDigit (mem : gMem) : Option Int32 := bd (f_X12_next mem) fun (x1 : Int32) => bd (f_X12_in x1 (48 : Int32) (57 : Int32)) fun (x2 : Int32) => if isB x2 then some x2 else none
set_option maxRecDepth 100000 in
set_option maxHeartbeats 4000000 in
theorem c_X12_isDigit {l : Launch} {E : State → Prop} {D : va_G} {cy : Nat → ClassId} {ad : Nat → Nat} {L : List Nat} {mem : gMem} {rv : Int32} (hk : gOk ad L) (hL : ∀ o ∈ LM0, o ∈ L) (hE : gEok ad L E)  (h : f_X12_isDigit mem = some rv) : gMet l yX12_isDigit cX12_isDigit 1 (some .boolean) 1 23 E D cy shM ad L [.ref (ad 0)] mem mem (some (.int rv)) := by
  refine g_go (own := RX12) (by decide +kernel) rfl hE (Nat.le_of_ble_eq_true rfl) ?_
  intro p e s m args below meth c R Q hargs hR hQ hEs hC hr hX H locs ls hH hl
  have hF := gF_of hk
  have hl : lv_has ls 1 [(0, .ref (ad 0))] := hl
  refine lv_aload_n hC.x hC.b dX12_isDigit_0 rfl (lv_at hl 0 rfl) ?_
  refine lv_aload_n hC.x hC.b dX12_isDigit_1 rfl (lv_at hl 0 rfl) ?_
  obtain ⟨x1, hf1, h⟩ := bd_e h
  refine c_V1 (As := []) (rest := [.ref (ad 0)]) (o := 0) (q := (RX12, TX12, 74)) hC hX hE.2.1 hF hH (c_X12_next (l := l) hk hL hE hf1) kw645 kw646 kw647 kw5 kw648 a_X12_next.1 a_X12_next.2 (hL _ mM0) sM0 rfl rfl hl.1 (rmk hR (by decide) (by decide)) (Nat.le_of_ble_eq_true rfl) dX12_isDigit_2 (fun H locs hH => ?_)
  refine lv_bipush (v := 48) hC.x hC.b dX12_isDigit_5 rfl ?_
  refine lv_bipush (v := 57) hC.x hC.b dX12_isDigit_7 rfl ?_
  obtain ⟨x2, hf2, h⟩ := bd_e h
  refine c_V1 (As := [.int x1, .int (48 : Int32), .int (57 : Int32)]) (rest := []) (o := 0) (q := (RX12, TX12, 74)) hC hX hE.2.1 hF hH (c_X12_in (l := l) hk hL hE hf2) kw167 kw168 kw169 kw5 kw170 a_X12_in.1 a_X12_in.2 (hL _ mM0) sM0 rfl rfl hl.1 (rmk hR (by decide) (by decide)) (Nat.le_of_ble_eq_true rfl) dX12_isDigit_9 (fun H locs hH => ?_)
  rw [hQ]
  exact e_zr hC hr hH h dX12_isDigit_12
theorem fl_X12_87_12 : gFl RX12 87 12 25 := ⟨RX12, TX12, 74, "OnTiptoeModel", rfl, inW12, by decide, kw101, Or.inl rfl⟩
theorem fl_X12_81_12 : gFl RX12 81 12 23 := ⟨RX12, TX12, 74, "OnTiptoeModel", rfl, inW12, by decide, kw99, Or.inl rfl⟩
theorem a_X12_emits : noMH yX12_emits.cls ∧ arity yX12_emits.desc 1 := by decide +kernel
theorem pl_X12_87_12 : gPl RX12 87 12 25 "I" := ⟨RX12, TX12, 74, tyX12, "OnTiptoeModel", rfl, inW12, tyX12_ok, nmX12, by decide, kw101, Or.inl rfl, rfl, rfl⟩
theorem fl_X12_90_12 : gFl RX12 90 12 26 := ⟨RX12, TX12, 74, "OnTiptoeModel", rfl, inW12, by decide, kw102, Or.inl rfl⟩
theorem pl_X12_90_12 : gPl RX12 90 12 26 "I" := ⟨RX12, TX12, 74, tyX12, "OnTiptoeModel", rfl, inW12, tyX12_ok, nmX12, by decide, kw102, Or.inl rfl, rfl, rfl⟩
def s_X12_whole_0 (self1 : gMem → Option gMem) (m2 : gMem) : Option gMem := if (gI m2 0 25) ≤ 0 then (some m2) else if okI ((gI m2 0 25) - (1 : Int32)) 101 then if (gI m2 13 (ix ((gI m2 0 25) - (1 : Int32)))) = (33 : Int32) then (bd (f_X12_emits m2 (-33 : Int32)) fun (m3 : gMem) => lt1 (gsI m3 0 25 ((gI m3 0 25) - (1 : Int32))) fun (m4 : gMem) => lt1 (gsI m4 0 26 ((gI m4 0 26) - (1 : Int32))) fun (m5 : gMem) => (self1 m5)) else some m2 else none
def f_X12_whole (mem : gMem) : Option gMem := lq1 (s_X12_whole_0) 1000 mem
set_option maxRecDepth 100000 in
set_option maxHeartbeats 4000000 in
theorem c_X12_whole {l : Launch} {E : State → Prop} {D : va_G} {cy : Nat → ClassId} {ad : Nat → Nat} {L : List Nat} {mem : gMem} {memz : gMem} (hk : gOk ad L) (hL : ∀ o ∈ LM0, o ∈ L) (hE : gEok ad L E)  (h : f_X12_whole mem = some memz) : gMet l yX12_whole cX12_whole 1 none 1 21 E D cy shM ad L [.ref (ad 0)] mem memz none := by
  refine g_go (own := RX12) (by decide +kernel) rfl hE (Nat.le_of_ble_eq_true rfl) ?_
  intro p e s m args below meth c R Q hargs hR hQ hEs hC hr hX H locs ls hH hl
  have hF := gF_of hk
  have hl : lv_has ls 1 [(0, .ref (ad 0))] := hl
  have hl1 : ∀ (n : Nat) (m2 : gMem) (H : Heap) (locs : List Loc) (ls : Array Slot), lq1 (s_X12_whole_0) n m2 = some memz → gH D cy shM ad L (gA ad L) s.heap m2 H locs → lv_has ls 1 [(0, .ref (ad 0))] → W p l e R s m args below meth c H locs 0 0 Q (F0 m 0 ls []) := by
    intro n
    induction n with
    | zero => intro m2 H locs ls h _ _; exact lq1_0 h
    | succ n ih1 =>
      intro m2 H locs ls h hH hl
      obtain ⟨self1, es1, h⟩ := lq1_s h
      refine lv_aload_n hC.x hC.b dX12_whole_0 rfl (lv_at hl 0 rfl) ?_
      refine r_geti hC hH fl_X12_87_12 (hL _ mM0) sM0 rfl dX12_whole_1 ?_
      refine b_if_le (tgt := 52) hC dX12_whole_4 (by decide) h (fun h => ?_) (fun h => ?_)
      · rw [hQ]
        exact e_v hC hr hH h dX12_whole_52
      · refine lv_aload_n hC.x hC.b dX12_whole_7 rfl (lv_at hl 0 rfl) ?_
        refine r_getc (z := 13) hC hH fl_X12_81_12 (hL _ mM0) sM0 rfl dX12_whole_8 ?_
        refine lv_aload_n hC.x hC.b dX12_whole_11 rfl (lv_at hl 0 rfl) ?_
        refine r_geti hC hH fl_X12_87_12 (hL _ mM0) sM0 rfl dX12_whole_12 ?_
        refine lv_iconst (v := 1) hC.x hC.b dX12_whole_15 rfl ?_
        refine lv_isub hC.x hC.b dX12_whole_16 ?_
        refine r_iald hC hH (hL _ mM13) sM13 h dX12_whole_17 (fun h => ?_)
        refine lv_bipush (v := 33) hC.x hC.b dX12_whole_18 rfl ?_
        refine b_ic_ne (tgt := 52) hC dX12_whole_20 (by decide) h (fun h => ?_) (fun h => ?_)
        · rw [hQ]
          exact e_v hC hr hH h dX12_whole_52
        · refine lv_aload_n hC.x hC.b dX12_whole_23 rfl (lv_at hl 0 rfl) ?_
          refine lv_bipush (v := -33) hC.x hC.b dX12_whole_24 rfl ?_
          obtain ⟨m3, hf3, h⟩ := bd_e h
          refine c_V0 (As := [.int (-33 : Int32)]) (rest := []) (o := 0) (q := (RX12, TX12, 74)) hC hX hE.2.1 hF hH (c_X12_emits (l := l) hk hL hE hf3) kw677 kw678 kw679 kw5 kw680 a_X12_emits.1 a_X12_emits.2 (hL _ mM0) sM0 rfl rfl hl.1 (rmk hR (by decide) (by decide)) (Nat.le_of_ble_eq_true rfl) dX12_whole_26 (fun H locs hH => ?_)
          refine lv_aload_n hC.x hC.b dX12_whole_29 rfl (lv_at hl 0 rfl) ?_
          refine lv_dup hC.x hC.b dX12_whole_30 rfl ?_
          refine r_geti hC hH fl_X12_87_12 (hL _ mM0) sM0 rfl dX12_whole_31 ?_
          refine lv_iconst (v := 1) hC.x hC.b dX12_whole_34 rfl ?_
          refine lv_isub hC.x hC.b dX12_whole_35 ?_
          refine r_puti hC hF hH pl_X12_87_12 (hL _ mM0) sM0 rfl h dX12_whole_36 (fun m4 H locs h hH => ?_)
          refine lv_aload_n hC.x hC.b dX12_whole_39 rfl (lv_at hl 0 rfl) ?_
          refine lv_dup hC.x hC.b dX12_whole_40 rfl ?_
          refine r_geti hC hH fl_X12_90_12 (hL _ mM0) sM0 rfl dX12_whole_41 ?_
          refine lv_iconst (v := 1) hC.x hC.b dX12_whole_44 rfl ?_
          refine lv_isub hC.x hC.b dX12_whole_45 ?_
          refine r_puti hC hF hH pl_X12_90_12 (hL _ mM0) sM0 rfl h dX12_whole_46 (fun m5 H locs h hH => ?_)
          refine lv_goto (tgt := 0) hC.x hC.b dX12_whole_49 (by decide) ?_
          exact ih1 m5 H locs ls (ap1 es1 h) hH (lv_sub hl [0] rfl)
  exact hl1 _ mem H locs ls h hH (lv_sub hl [0] rfl)
def s_X12_settle_0 (p0 : Int32) (self1 : gMem → Option gMem) (m2 : gMem) : Option gMem := if (gI m2 0 25) ≤ 0 then (some m2) else if okI ((gI m2 0 25) - (1 : Int32)) 101 then jn ((lt1 (gsI m2 0 25 ((gI m2 0 25) - (1 : Int32))) fun (m4 : gMem) => if okI (gI m4 0 25) 101 then bd (f_X12_emits m4 (-(gI m4 13 (ix (gI m4 0 25))))) fun (m5 : gMem) => (self1 m5) else none) : Option gMem) fun j3 => if (gI m2 13 (ix ((gI m2 0 25) - (1 : Int32)))) = (38 : Int32) then (j3) else if okI ((gI m2 0 25) - (1 : Int32)) 101 then if (gI m2 13 (ix ((gI m2 0 25) - (1 : Int32)))) = (124 : Int32) then (if p0 = (38 : Int32) then (some m2) else j3) else some m2 else none else none
def f_X12_settle (mem : gMem) (p0 : Int32) : Option gMem := lq1 (s_X12_settle_0 p0) 1000 mem
set_option maxRecDepth 100000 in
set_option maxHeartbeats 4000000 in
theorem c_X12_settle {l : Launch} {E : State → Prop} {D : va_G} {cy : Nat → ClassId} {ad : Nat → Nat} {L : List Nat} {mem : gMem} {p0 : Int32} {memz : gMem} (hk : gOk ad L) (hL : ∀ o ∈ LM0, o ∈ L) (hE : gEok ad L E)  (h : f_X12_settle mem p0 = some memz) : gMet l yX12_settle cX12_settle 2 none 1 21 E D cy shM ad L [.ref (ad 0), .int p0] mem memz none := by
  refine g_go (own := RX12) (by decide +kernel) rfl hE (Nat.le_of_ble_eq_true rfl) ?_
  intro p e s m args below meth c R Q hargs hR hQ hEs hC hr hX H locs ls hH hl
  have hF := gF_of hk
  have hl : lv_has ls 2 [(0, .ref (ad 0)), (1, .int p0)] := hl
  have hl1 : ∀ (n : Nat) (m2 : gMem) (H : Heap) (locs : List Loc) (ls : Array Slot), lq1 (s_X12_settle_0 p0) n m2 = some memz → gH D cy shM ad L (gA ad L) s.heap m2 H locs → lv_has ls 2 [(0, .ref (ad 0)), (1, .int p0)] → W p l e R s m args below meth c H locs 0 0 Q (F0 m 0 ls []) := by
    intro n
    induction n with
    | zero => intro m2 H locs ls h _ _; exact lq1_0 h
    | succ n ih1 =>
      intro m2 H locs ls h hH hl
      obtain ⟨self1, es1, h⟩ := lq1_s h
      refine lv_aload_n hC.x hC.b dX12_settle_0 rfl (lv_at hl 0 rfl) ?_
      refine r_geti hC hH fl_X12_87_12 (hL _ mM0) sM0 rfl dX12_settle_1 ?_
      refine b_if_le (tgt := 72) hC dX12_settle_4 (by decide) h (fun h => ?_) (fun h => ?_)
      · rw [hQ]
        exact e_v hC hr hH h dX12_settle_72
      · refine lv_aload_n hC.x hC.b dX12_settle_7 rfl (lv_at hl 0 rfl) ?_
        refine r_getc (z := 13) hC hH fl_X12_81_12 (hL _ mM0) sM0 rfl dX12_settle_8 ?_
        refine lv_aload_n hC.x hC.b dX12_settle_11 rfl (lv_at hl 0 rfl) ?_
        refine r_geti hC hH fl_X12_87_12 (hL _ mM0) sM0 rfl dX12_settle_12 ?_
        refine lv_iconst (v := 1) hC.x hC.b dX12_settle_15 rfl ?_
        refine lv_isub hC.x hC.b dX12_settle_16 ?_
        refine r_iald hC hH (hL _ mM13) sM13 h dX12_settle_17 (fun h => ?_)
        refine lv_bipush (v := 38) hC.x hC.b dX12_settle_18 rfl ?_
        obtain ⟨j3, ej3, h⟩ := jn_e h
        have hj3 : ∀  (H : Heap) (locs : List Loc) (ls : Array Slot), j3 = some memz → gH D cy shM ad L (gA ad L) s.heap m2 H locs → lv_has ls 2 [(0, .ref (ad 0)), (1, .int p0)] → W p l e R s m args below meth c H locs 0 0 Q (F0 m 45 ls []) := by
          intro H locs ls h hH hl
          have h := ap0 ej3 h
          refine lv_aload_n hC.x hC.b dX12_settle_45 rfl (lv_at hl 0 rfl) ?_
          refine lv_dup hC.x hC.b dX12_settle_46 rfl ?_
          refine r_geti hC hH fl_X12_87_12 (hL _ mM0) sM0 rfl dX12_settle_47 ?_
          refine lv_iconst (v := 1) hC.x hC.b dX12_settle_50 rfl ?_
          refine lv_isub hC.x hC.b dX12_settle_51 ?_
          refine r_puti hC hF hH pl_X12_87_12 (hL _ mM0) sM0 rfl h dX12_settle_52 (fun m4 H locs h hH => ?_)
          refine lv_aload_n hC.x hC.b dX12_settle_55 rfl (lv_at hl 0 rfl) ?_
          refine lv_aload_n hC.x hC.b dX12_settle_56 rfl (lv_at hl 0 rfl) ?_
          refine r_getc (z := 13) hC hH fl_X12_81_12 (hL _ mM0) sM0 rfl dX12_settle_57 ?_
          refine lv_aload_n hC.x hC.b dX12_settle_60 rfl (lv_at hl 0 rfl) ?_
          refine r_geti hC hH fl_X12_87_12 (hL _ mM0) sM0 rfl dX12_settle_61 ?_
          refine r_iald hC hH (hL _ mM13) sM13 h dX12_settle_64 (fun h => ?_)
          refine lv_ineg hC.x hC.b dX12_settle_65 ?_
          obtain ⟨m5, hf5, h⟩ := bd_e h
          refine c_V0 (As := [.int (-(gI m4 13 (ix (gI m4 0 25))))]) (rest := []) (o := 0) (q := (RX12, TX12, 74)) hC hX hE.2.1 hF hH (c_X12_emits (l := l) hk hL hE hf5) kw677 kw678 kw679 kw5 kw680 a_X12_emits.1 a_X12_emits.2 (hL _ mM0) sM0 rfl rfl hl.1 (rmk hR (by decide) (by decide)) (Nat.le_of_ble_eq_true rfl) dX12_settle_66 (fun H locs hH => ?_)
          refine lv_goto (tgt := 0) hC.x hC.b dX12_settle_69 (by decide) ?_
          exact ih1 m5 H locs ls (ap1 es1 h) hH (lv_sub hl [0, 1] rfl)
        clear ej3
        refine b_ic_eq (tgt := 45) hC dX12_settle_20 (by decide) h (fun h => ?_) (fun h => ?_)
        · exact hj3  H locs ls h hH (lv_sub hl [0, 1] rfl)
        · refine lv_aload_n hC.x hC.b dX12_settle_23 rfl (lv_at hl 0 rfl) ?_
          refine r_getc (z := 13) hC hH fl_X12_81_12 (hL _ mM0) sM0 rfl dX12_settle_24 ?_
          refine lv_aload_n hC.x hC.b dX12_settle_27 rfl (lv_at hl 0 rfl) ?_
          refine r_geti hC hH fl_X12_87_12 (hL _ mM0) sM0 rfl dX12_settle_28 ?_
          refine lv_iconst (v := 1) hC.x hC.b dX12_settle_31 rfl ?_
          refine lv_isub hC.x hC.b dX12_settle_32 ?_
          refine r_iald hC hH (hL _ mM13) sM13 h dX12_settle_33 (fun h => ?_)
          refine lv_bipush (v := 124) hC.x hC.b dX12_settle_34 rfl ?_
          refine b_ic_ne (tgt := 72) hC dX12_settle_36 (by decide) h (fun h => ?_) (fun h => ?_)
          · rw [hQ]
            exact e_v hC hr hH h dX12_settle_72
          · refine lv_iload_n hC.x hC.b dX12_settle_39 rfl (lv_at hl 1 rfl) ?_
            refine lv_bipush (v := 38) hC.x hC.b dX12_settle_40 rfl ?_
            refine b_ic_eq (tgt := 72) hC dX12_settle_42 (by decide) h (fun h => ?_) (fun h => ?_)
            · rw [hQ]
              exact e_v hC hr hH h dX12_settle_72
            · exact hj3  H locs ls h hH (lv_sub hl [0, 1] rfl)
  exact hl1 _ mem H locs ls h hH (lv_sub hl [0, 1] rfl)

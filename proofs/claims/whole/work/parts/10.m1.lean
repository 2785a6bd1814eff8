theorem a_X12_in : noMH yX12_in.cls ∧ arity yX12_in.desc 3 := by decide +kernel
theorem fl_X12_7_12 : gFl RX12 7 12 0 := ⟨RX12, TX12, 74, "OnTiptoeModel", rfl, inW12, by decide, kw76, Or.inl rfl⟩
theorem a_X12_apart : noMH yX12_apart.cls ∧ arity yX12_apart.desc 2 := by decide +kernel
theorem a_X12_isBoard : noMH yX12_isBoard.cls ∧ arity yX12_isBoard.desc 1 := by decide +kernel
theorem fl_X12_29_12 : gFl RX12 29 12 6 := ⟨RX12, TX12, 74, "OnTiptoeModel", rfl, inW12, by decide, kw82, Or.inl rfl⟩
theorem fl_X12_19_12 : gFl RX12 19 12 3 := ⟨RX12, TX12, 74, "OnTiptoeModel", rfl, inW12, by decide, kw79, Or.inl rfl⟩
theorem pl_X12_19_12 : gPl RX12 19 12 3 "I" := ⟨RX12, TX12, 74, tyX12, "OnTiptoeModel", rfl, inW12, tyX12_ok, nmX12, by decide, kw79, Or.inl rfl, rfl, rfl⟩
theorem fl_X12_22_12 : gFl RX12 22 12 4 := ⟨RX12, TX12, 74, "OnTiptoeModel", rfl, inW12, by decide, kw80, Or.inl rfl⟩
theorem pl_X12_22_12 : gPl RX12 22 12 4 "I" := ⟨RX12, TX12, 74, tyX12, "OnTiptoeModel", rfl, inW12, tyX12_ok, nmX12, by decide, kw80, Or.inl rfl, rfl, rfl⟩
def f_X12_in (p0 : Int32) (p1 : Int32) (p2 : Int32) : Option Int32 := if p0 < p1 then (some (0 : Int32)) else if p2 < p0 then (some (0 : Int32)) else some (1 : Int32)
set_option maxRecDepth 100000 in
set_option maxHeartbeats 4000000 in
theorem c_X12_in {l : Launch} {E : State → Prop} {D : va_G} {cy : Nat → ClassId} {ad : Nat → Nat} {L : List Nat} {mem : gMem} {p0 : Int32} {p1 : Int32} {p2 : Int32} {rv : Int32} (hk : gOk ad L) (hL : ∀ o ∈ LM0, o ∈ L) (hE : gEok ad L E)  (h : f_X12_in p0 p1 p2 = some rv) : gMet l yX12_in cX12_in 4 (some .boolean) 0 0 E D cy shM ad L [.ref (ad 0), .int p0, .int p1, .int p2] mem mem (some (.int rv)) := by
  refine g_go (own := RX12) (by decide +kernel) rfl hE (Nat.le_of_ble_eq_true rfl) ?_
  intro p e s m args below meth c R Q hargs hR hQ hEs hC hr hX H locs ls hH hl
  have hF := gF_of hk
  have hl : lv_has ls 4 [(0, .ref (ad 0)), (1, .int p0), (2, .int p1), (3, .int p2)] := hl
  refine lv_iload_n hC.x hC.b dX12_in_0 rfl (lv_at hl 1 rfl) ?_
  refine lv_iload_n hC.x hC.b dX12_in_1 rfl (lv_at hl 2 rfl) ?_
  refine b_ic_lt (tgt := 14) hC dX12_in_2 (by decide) h (fun h => ?_) (fun h => ?_)
  · refine lv_iconst (v := 0) hC.x hC.b dX12_in_14 rfl ?_
    rw [hQ]
    exact e_nr hC hr rfl hH h dX12_in_15
  · refine lv_iload_n hC.x hC.b dX12_in_5 rfl (lv_at hl 1 rfl) ?_
    refine lv_iload_n hC.x hC.b dX12_in_6 rfl (lv_at hl 3 rfl) ?_
    refine b_ic_gt (tgt := 14) hC dX12_in_7 (by decide) h (fun h => ?_) (fun h => ?_)
    · refine lv_iconst (v := 0) hC.x hC.b dX12_in_14 rfl ?_
      rw [hQ]
      exact e_nr hC hr rfl hH h dX12_in_15
    · refine lv_iconst (v := 1) hC.x hC.b dX12_in_10 rfl ?_
      refine lv_goto (tgt := 15) hC.x hC.b dX12_in_11 (by decide) ?_
      rw [hQ]
      exact e_nr hC hr rfl hH h dX12_in_15
def f_X12_has (p0 : Int32) (p1 : Int32) : Option Int32 := if ((p0 >>> (p1 &&& 31)) &&& (1 : Int32)) = (1 : Int32) then (some (1 : Int32)) else some (0 : Int32)
set_option maxRecDepth 100000 in
set_option maxHeartbeats 4000000 in
theorem c_X12_has {l : Launch} {E : State → Prop} {D : va_G} {cy : Nat → ClassId} {ad : Nat → Nat} {L : List Nat} {mem : gMem} {p0 : Int32} {p1 : Int32} {rv : Int32} (hk : gOk ad L) (hL : ∀ o ∈ LM0, o ∈ L) (hE : gEok ad L E)  (h : f_X12_has p0 p1 = some rv) : gMet l yX12_has cX12_has 3 (some .boolean) 0 0 E D cy shM ad L [.ref (ad 0), .int p0, .int p1] mem mem (some (.int rv)) := by
  refine g_go (own := RX12) (by decide +kernel) rfl hE (Nat.le_of_ble_eq_true rfl) ?_
  intro p e s m args below meth c R Q hargs hR hQ hEs hC hr hX H locs ls hH hl
  have hF := gF_of hk
  have hl : lv_has ls 3 [(0, .ref (ad 0)), (1, .int p0), (2, .int p1)] := hl
  refine lv_iload_n hC.x hC.b dX12_has_0 rfl (lv_at hl 1 rfl) ?_
  refine lv_iload_n hC.x hC.b dX12_has_1 rfl (lv_at hl 2 rfl) ?_
  refine lv_ishr hC.x hC.b dX12_has_2 ?_
  refine lv_iconst (v := 1) hC.x hC.b dX12_has_3 rfl ?_
  refine lv_iand hC.x hC.b dX12_has_4 ?_
  refine lv_iconst (v := 1) hC.x hC.b dX12_has_5 rfl ?_
  refine b_ic_ne (tgt := 13) hC dX12_has_6 (by decide) h (fun h => ?_) (fun h => ?_)
  · refine lv_iconst (v := 0) hC.x hC.b dX12_has_13 rfl ?_
    rw [hQ]
    exact e_nr hC hr rfl hH h dX12_has_14
  · refine lv_iconst (v := 1) hC.x hC.b dX12_has_9 rfl ?_
    refine lv_goto (tgt := 14) hC.x hC.b dX12_has_10 (by decide) ?_
    rw [hQ]
    exact e_nr hC hr rfl hH h dX12_has_14
def f_X12_isBoard (p0 : Int32) : Option Int32 := bd (f_X12_in p0 (0 : Int32) (11 : Int32)) fun (x1 : Int32) => if isB x1 then some x1 else none
set_option maxRecDepth 100000 in
set_option maxHeartbeats 4000000 in
theorem c_X12_isBoard {l : Launch} {E : State → Prop} {D : va_G} {cy : Nat → ClassId} {ad : Nat → Nat} {L : List Nat} {mem : gMem} {p0 : Int32} {rv : Int32} (hk : gOk ad L) (hL : ∀ o ∈ LM0, o ∈ L) (hE : gEok ad L E)  (h : f_X12_isBoard p0 = some rv) : gMet l yX12_isBoard cX12_isBoard 2 (some .boolean) 1 23 E D cy shM ad L [.ref (ad 0), .int p0] mem mem (some (.int rv)) := by
  refine g_go (own := RX12) (by decide +kernel) rfl hE (Nat.le_of_ble_eq_true rfl) ?_
  intro p e s m args below meth c R Q hargs hR hQ hEs hC hr hX H locs ls hH hl
  have hF := gF_of hk
  have hl : lv_has ls 2 [(0, .ref (ad 0)), (1, .int p0)] := hl
  refine lv_aload_n hC.x hC.b dX12_isBoard_0 rfl (lv_at hl 0 rfl) ?_
  refine lv_iload_n hC.x hC.b dX12_isBoard_1 rfl (lv_at hl 1 rfl) ?_
  refine lv_iconst (v := 0) hC.x hC.b dX12_isBoard_2 rfl ?_
  refine lv_bipush (v := 11) hC.x hC.b dX12_isBoard_3 rfl ?_
  obtain ⟨x1, hf1, h⟩ := bd_e h
  refine c_V1 (As := [.int p0, .int (0 : Int32), .int (11 : Int32)]) (rest := []) (o := 0) (q := (RX12, TX12, 74)) hC hX hE.2.1 hF hH (c_X12_in (l := l) hk hL hE hf1) kw167 kw168 kw169 kw5 kw170 a_X12_in.1 a_X12_in.2 (hL _ mM0) sM0 rfl rfl hl.1 (rmk hR (by decide) (by decide)) (Nat.le_of_ble_eq_true rfl) dX12_isBoard_5 (fun H locs hH => ?_)
  rw [hQ]
  exact e_zr hC hr hH h dX12_isBoard_8
def f_X12_isWalker (mem : gMem) (p0 : Int32) : Option Int32 := bd (f_X12_in p0 (0 : Int32) ((gI mem 0 0) - (1 : Int32))) fun (x1 : Int32) => if isB x1 then some x1 else none
set_option maxRecDepth 100000 in
set_option maxHeartbeats 4000000 in
theorem c_X12_isWalker {l : Launch} {E : State → Prop} {D : va_G} {cy : Nat → ClassId} {ad : Nat → Nat} {L : List Nat} {mem : gMem} {p0 : Int32} {rv : Int32} (hk : gOk ad L) (hL : ∀ o ∈ LM0, o ∈ L) (hE : gEok ad L E)  (h : f_X12_isWalker mem p0 = some rv) : gMet l yX12_isWalker cX12_isWalker 2 (some .boolean) 1 23 E D cy shM ad L [.ref (ad 0), .int p0] mem mem (some (.int rv)) := by
  refine g_go (own := RX12) (by decide +kernel) rfl hE (Nat.le_of_ble_eq_true rfl) ?_
  intro p e s m args below meth c R Q hargs hR hQ hEs hC hr hX H locs ls hH hl
  have hF := gF_of hk
  have hl : lv_has ls 2 [(0, .ref (ad 0)), (1, .int p0)] := hl
  refine lv_aload_n hC.x hC.b dX12_isWalker_0 rfl (lv_at hl 0 rfl) ?_
  refine lv_iload_n hC.x hC.b dX12_isWalker_1 rfl (lv_at hl 1 rfl) ?_
  refine lv_iconst (v := 0) hC.x hC.b dX12_isWalker_2 rfl ?_
  refine lv_aload_n hC.x hC.b dX12_isWalker_3 rfl (lv_at hl 0 rfl) ?_
  refine r_geti hC hH fl_X12_7_12 (hL _ mM0) sM0 rfl dX12_isWalker_4 ?_
  refine lv_iconst (v := 1) hC.x hC.b dX12_isWalker_7 rfl ?_
  refine lv_isub hC.x hC.b dX12_isWalker_8 ?_
  obtain ⟨x1, hf1, h⟩ := bd_e h
  refine c_V1 (As := [.int p0, .int (0 : Int32), .int ((gI mem 0 0) - (1 : Int32))]) (rest := []) (o := 0) (q := (RX12, TX12, 74)) hC hX hE.2.1 hF hH (c_X12_in (l := l) hk hL hE hf1) kw167 kw168 kw169 kw5 kw170 a_X12_in.1 a_X12_in.2 (hL _ mM0) sM0 rfl rfl hl.1 (rmk hR (by decide) (by decide)) (Nat.le_of_ble_eq_true rfl) dX12_isWalker_9 (fun H locs hH => ?_)
  rw [hQ]
  exact e_zr hC hr hH h dX12_isWalker_12
def f_X12_apart (p0 : Int32) (p1 : Int32) : Option Int32 := if p1 ≤ p0 then (some (p0 - p1)) else some (p1 - p0)
set_option maxRecDepth 100000 in
set_option maxHeartbeats 4000000 in
theorem c_X12_apart {l : Launch} {E : State → Prop} {D : va_G} {cy : Nat → ClassId} {ad : Nat → Nat} {L : List Nat} {mem : gMem} {p0 : Int32} {p1 : Int32} {rv : Int32} (hk : gOk ad L) (hL : ∀ o ∈ LM0, o ∈ L) (hE : gEok ad L E)  (h : f_X12_apart p0 p1 = some rv) : gMet l yX12_apart cX12_apart 3 (some .int) 0 0 E D cy shM ad L [.ref (ad 0), .int p0, .int p1] mem mem (some (.int rv)) := by
  refine g_go (own := RX12) (by decide +kernel) rfl hE (Nat.le_of_ble_eq_true rfl) ?_
  intro p e s m args below meth c R Q hargs hR hQ hEs hC hr hX H locs ls hH hl
  have hF := gF_of hk
  have hl : lv_has ls 3 [(0, .ref (ad 0)), (1, .int p0), (2, .int p1)] := hl
  refine lv_iload_n hC.x hC.b dX12_apart_0 rfl (lv_at hl 1 rfl) ?_
  refine lv_iload_n hC.x hC.b dX12_apart_1 rfl (lv_at hl 2 rfl) ?_
  refine b_ic_ge (tgt := 11) hC dX12_apart_2 (by decide) h (fun h => ?_) (fun h => ?_)
  · refine lv_iload_n hC.x hC.b dX12_apart_11 rfl (lv_at hl 1 rfl) ?_
    refine lv_iload_n hC.x hC.b dX12_apart_12 rfl (lv_at hl 2 rfl) ?_
    refine lv_isub hC.x hC.b dX12_apart_13 ?_
    rw [hQ]
    exact e_ir hC hr hH h dX12_apart_14
  · refine lv_iload_n hC.x hC.b dX12_apart_5 rfl (lv_at hl 2 rfl) ?_
    refine lv_iload_n hC.x hC.b dX12_apart_6 rfl (lv_at hl 1 rfl) ?_
    refine lv_isub hC.x hC.b dX12_apart_7 ?_
    refine lv_goto (tgt := 14) hC.x hC.b dX12_apart_8 (by decide) ?_
    rw [hQ]
    exact e_ir hC hr hH h dX12_apart_14
def f_X12_areBeside (p0 : Int32) (p1 : Int32) : Option Int32 := bd (f_X12_apart (p0 - p0 / (6 : Int32) * (6 : Int32)) (p1 - p1 / (6 : Int32) * (6 : Int32))) fun (x1 : Int32) => bd (f_X12_apart (p0 / (6 : Int32)) (p1 / (6 : Int32))) fun (x2 : Int32) => if (x1 + x2) = (1 : Int32) then (some (1 : Int32)) else some (0 : Int32)
set_option maxRecDepth 100000 in
set_option maxHeartbeats 4000000 in
theorem c_X12_areBeside {l : Launch} {E : State → Prop} {D : va_G} {cy : Nat → ClassId} {ad : Nat → Nat} {L : List Nat} {mem : gMem} {p0 : Int32} {p1 : Int32} {rv : Int32} (hk : gOk ad L) (hL : ∀ o ∈ LM0, o ∈ L) (hE : gEok ad L E)  (h : f_X12_areBeside p0 p1 = some rv) : gMet l yX12_areBeside cX12_areBeside 3 (some .boolean) 1 22 E D cy shM ad L [.ref (ad 0), .int p0, .int p1] mem mem (some (.int rv)) := by
  refine g_go (own := RX12) (by decide +kernel) rfl hE (Nat.le_of_ble_eq_true rfl) ?_
  intro p e s m args below meth c R Q hargs hR hQ hEs hC hr hX H locs ls hH hl
  have hF := gF_of hk
  have hl : lv_has ls 3 [(0, .ref (ad 0)), (1, .int p0), (2, .int p1)] := hl
  refine lv_aload_n hC.x hC.b dX12_areBeside_0 rfl (lv_at hl 0 rfl) ?_
  refine lv_iload_n hC.x hC.b dX12_areBeside_1 rfl (lv_at hl 1 rfl) ?_
  refine lv_bipush (v := 6) hC.x hC.b dX12_areBeside_2 rfl ?_
  refine lv_irem hC.x hC.b dX12_areBeside_4 (by decide) ?_
  refine lv_iload_n hC.x hC.b dX12_areBeside_5 rfl (lv_at hl 2 rfl) ?_
  refine lv_bipush (v := 6) hC.x hC.b dX12_areBeside_6 rfl ?_
  refine lv_irem hC.x hC.b dX12_areBeside_8 (by decide) ?_
  obtain ⟨x1, hf1, h⟩ := bd_e h
  refine c_V1 (As := [.int (p0 - p0 / (6 : Int32) * (6 : Int32)), .int (p1 - p1 / (6 : Int32) * (6 : Int32))]) (rest := []) (o := 0) (q := (RX12, TX12, 74)) hC hX hE.2.1 hF hH (c_X12_apart (l := l) hk hL hE hf1) kw743 kw744 kw745 kw5 kw746 a_X12_apart.1 a_X12_apart.2 (hL _ mM0) sM0 rfl rfl hl.1 (rmk hR (by decide) (by decide)) (Nat.le_of_ble_eq_true rfl) dX12_areBeside_9 (fun H locs hH => ?_)
  refine lv_aload_n hC.x hC.b dX12_areBeside_12 rfl (lv_at hl 0 rfl) ?_
  refine lv_iload_n hC.x hC.b dX12_areBeside_13 rfl (lv_at hl 1 rfl) ?_
  refine lv_bipush (v := 6) hC.x hC.b dX12_areBeside_14 rfl ?_
  refine lv_idiv hC.x hC.b dX12_areBeside_16 (by decide) ?_
  refine lv_iload_n hC.x hC.b dX12_areBeside_17 rfl (lv_at hl 2 rfl) ?_
  refine lv_bipush (v := 6) hC.x hC.b dX12_areBeside_18 rfl ?_
  refine lv_idiv hC.x hC.b dX12_areBeside_20 (by decide) ?_
  obtain ⟨x2, hf2, h⟩ := bd_e h
  refine c_V1 (As := [.int (p0 / (6 : Int32)), .int (p1 / (6 : Int32))]) (rest := [.int x1]) (o := 0) (q := (RX12, TX12, 74)) hC hX hE.2.1 hF hH (c_X12_apart (l := l) hk hL hE hf2) kw743 kw744 kw745 kw5 kw746 a_X12_apart.1 a_X12_apart.2 (hL _ mM0) sM0 rfl rfl hl.1 (rmk hR (by decide) (by decide)) (Nat.le_of_ble_eq_true rfl) dX12_areBeside_21 (fun H locs hH => ?_)
  refine lv_iadd hC.x hC.b dX12_areBeside_24 ?_
  refine lv_iconst (v := 1) hC.x hC.b dX12_areBeside_25 rfl ?_
  refine b_ic_ne (tgt := 33) hC dX12_areBeside_26 (by decide) h (fun h => ?_) (fun h => ?_)
  · refine lv_iconst (v := 0) hC.x hC.b dX12_areBeside_33 rfl ?_
    rw [hQ]
    exact e_nr hC hr rfl hH h dX12_areBeside_34
  · refine lv_iconst (v := 1) hC.x hC.b dX12_areBeside_29 rfl ?_
    refine lv_goto (tgt := 34) hC.x hC.b dX12_areBeside_30 (by decide) ?_
    rw [hQ]
    exact e_nr hC hr rfl hH h dX12_areBeside_34
def f_X12_creak (mem : gMem) (p0 : Int32) (p1 : Int32) : Option (Int32 × gMem) := bd (f_X12_isBoard p0) fun (x1 : Int32) => if x1 = 0 then (some ((-1 : Int32), mem)) else bd (f_X12_in p1 (0 : Int32) (9 : Int32)) fun (x2 : Int32) => if x2 = 0 then (some ((-2 : Int32), mem)) else if okI p0 12 then lt1 (gI mem 1 (ix p0)) fun (x3 : Int32) => if okI p0 12 then lt1 (gsI mem 1 (ix p0) p1) fun (m4 : gMem) => some (x3, m4) else none else none
set_option maxRecDepth 100000 in
set_option maxHeartbeats 4000000 in
theorem c_X12_creak {l : Launch} {E : State → Prop} {D : va_G} {cy : Nat → ClassId} {ad : Nat → Nat} {L : List Nat} {mem : gMem} {p0 : Int32} {p1 : Int32} {rv : Int32} {memz : gMem} (hk : gOk ad L) (hL : ∀ o ∈ LM0, o ∈ L) (hE : gEok ad L E)  (h : f_X12_creak mem p0 p1 = some (rv, memz)) : gMet l yX12_creak cX12_creak 4 (some .int) 2 44 E D cy shM ad L [.ref (ad 0), .int p0, .int p1] mem memz (some (.int rv)) := by
  refine g_go (own := RX12) (by decide +kernel) rfl hE (Nat.le_of_ble_eq_true rfl) ?_
  intro p e s m args below meth c R Q hargs hR hQ hEs hC hr hX H locs ls hH hl
  have hF := gF_of hk
  have hl : lv_has ls 4 [(0, .ref (ad 0)), (1, .int p0), (2, .int p1)] := hl
  refine lv_aload_n hC.x hC.b dX12_creak_0 rfl (lv_at hl 0 rfl) ?_
  refine lv_iload_n hC.x hC.b dX12_creak_1 rfl (lv_at hl 1 rfl) ?_
  obtain ⟨x1, hf1, h⟩ := bd_e h
  refine c_V1 (As := [.int p0]) (rest := []) (o := 0) (q := (RX12, TX12, 74)) hC hX hE.2.1 hF hH (c_X12_isBoard (l := l) hk hL hE hf1) kw163 kw164 kw165 kw5 kw166 a_X12_isBoard.1 a_X12_isBoard.2 (hL _ mM0) sM0 rfl rfl hl.1 (rmk hR (by decide) (by decide)) (Nat.le_of_ble_eq_true rfl) dX12_creak_2 (fun H locs hH => ?_)
  refine b_if_ne (tgt := 10) hC dX12_creak_5 (by decide) h (fun h => ?_) (fun h => ?_)
  · refine lv_aload_n hC.x hC.b dX12_creak_10 rfl (lv_at hl 0 rfl) ?_
    refine lv_iload_n hC.x hC.b dX12_creak_11 rfl (lv_at hl 2 rfl) ?_
    refine lv_iconst (v := 0) hC.x hC.b dX12_creak_12 rfl ?_
    refine lv_bipush (v := 9) hC.x hC.b dX12_creak_13 rfl ?_
    obtain ⟨x2, hf2, h⟩ := bd_e h
    refine c_V1 (As := [.int p1, .int (0 : Int32), .int (9 : Int32)]) (rest := []) (o := 0) (q := (RX12, TX12, 74)) hC hX hE.2.1 hF hH (c_X12_in (l := l) hk hL hE hf2) kw167 kw168 kw169 kw5 kw170 a_X12_in.1 a_X12_in.2 (hL _ mM0) sM0 rfl rfl hl.1 (rmk hR (by decide) (by decide)) (Nat.le_of_ble_eq_true rfl) dX12_creak_15 (fun H locs hH => ?_)
    refine b_if_ne (tgt := 24) hC dX12_creak_18 (by decide) h (fun h => ?_) (fun h => ?_)
    · refine lv_aload_n hC.x hC.b dX12_creak_24 rfl (lv_at hl 0 rfl) ?_
      refine r_getc (z := 1) hC hH fl_X12_29_12 (hL _ mM0) sM0 rfl dX12_creak_25 ?_
      refine lv_iload_n hC.x hC.b dX12_creak_28 rfl (lv_at hl 1 rfl) ?_
      refine r_iald hC hH (hL _ mM1) sM1 h dX12_creak_29 (fun h => ?_)
      refine n_i h (fun x3 h => ?_)
      refine lv_istore_n (lv' := [(3, .int x3), (0, .ref (ad 0)), (1, .int p0), (2, .int p1)]) hC.x hC.b dX12_creak_30 rfl hl (by decide) rfl (fun ls hl => ?_)
      refine lv_aload_n hC.x hC.b dX12_creak_31 rfl (lv_at hl 1 rfl) ?_
      refine r_getc (z := 1) hC hH fl_X12_29_12 (hL _ mM0) sM0 rfl dX12_creak_32 ?_
      refine lv_iload_n hC.x hC.b dX12_creak_35 rfl (lv_at hl 2 rfl) ?_
      refine lv_iload_n hC.x hC.b dX12_creak_36 rfl (lv_at hl 3 rfl) ?_
      refine r_iast hC hF hH (hL _ mM1) sM1 h dX12_creak_37 (fun m4 H locs h hH => ?_)
      refine lv_iload_n hC.x hC.b dX12_creak_38 rfl (lv_at hl 0 rfl) ?_
      rw [hQ]
      exact e_i hC hr hH h dX12_creak_39
    · refine lv_bipush (v := -2) hC.x hC.b dX12_creak_21 rfl ?_
      rw [hQ]
      exact e_i hC hr hH h dX12_creak_23
  · refine lv_iconst (v := -1) hC.x hC.b dX12_creak_8 rfl ?_
    rw [hQ]
    exact e_i hC hr hH h dX12_creak_9
def f_X12_toy (mem : gMem) (p0 : Int32) (p1 : Int32) : Option (Int32 × gMem) := bd (f_X12_isBoard p0) fun (x1 : Int32) => if x1 = 0 then (some ((-1 : Int32), mem)) else lt1 (((gI mem 0 3) >>> (p0 &&& 31)) &&& (1 : Int32)) fun (x2 : Int32) => jn ((fun (x4 : Int32) => lt1 (gsI mem 0 3 x4) fun (m5 : gMem) => some (x2, m5)) : Int32 → Option (Int32 × gMem)) fun j3 => if p1 = 0 then ((j3 ((gI mem 0 3) &&& (((1 : Int32) <<< (p0 &&& 31)) ^^^ (-1 : Int32))))) else (j3 ((gI mem 0 3) ||| ((1 : Int32) <<< (p0 &&& 31))))
set_option maxRecDepth 100000 in
set_option maxHeartbeats 4000000 in
theorem c_X12_toy {l : Launch} {E : State → Prop} {D : va_G} {cy : Nat → ClassId} {ad : Nat → Nat} {L : List Nat} {mem : gMem} {p0 : Int32} {p1 : Int32} {rv : Int32} {memz : gMem} (hk : gOk ad L) (hL : ∀ o ∈ LM0, o ∈ L) (hE : gEok ad L E)  (h : f_X12_toy mem p0 p1 = some (rv, memz)) : gMet l yX12_toy cX12_toy 4 (some .int) 2 44 E D cy shM ad L [.ref (ad 0), .int p0, .int p1] mem memz (some (.int rv)) := by
  refine g_go (own := RX12) (by decide +kernel) rfl hE (Nat.le_of_ble_eq_true rfl) ?_
  intro p e s m args below meth c R Q hargs hR hQ hEs hC hr hX H locs ls hH hl
  have hF := gF_of hk
  have hl : lv_has ls 4 [(0, .ref (ad 0)), (1, .int p0), (2, .int p1)] := hl
  refine lv_aload_n hC.x hC.b dX12_toy_0 rfl (lv_at hl 0 rfl) ?_
  refine lv_iload_n hC.x hC.b dX12_toy_1 rfl (lv_at hl 1 rfl) ?_
  obtain ⟨x1, hf1, h⟩ := bd_e h
  refine c_V1 (As := [.int p0]) (rest := []) (o := 0) (q := (RX12, TX12, 74)) hC hX hE.2.1 hF hH (c_X12_isBoard (l := l) hk hL hE hf1) kw163 kw164 kw165 kw5 kw166 a_X12_isBoard.1 a_X12_isBoard.2 (hL _ mM0) sM0 rfl rfl hl.1 (rmk hR (by decide) (by decide)) (Nat.le_of_ble_eq_true rfl) dX12_toy_2 (fun H locs hH => ?_)
  refine b_if_ne (tgt := 10) hC dX12_toy_5 (by decide) h (fun h => ?_) (fun h => ?_)
  · refine lv_aload_n hC.x hC.b dX12_toy_10 rfl (lv_at hl 0 rfl) ?_
    refine r_geti hC hH fl_X12_19_12 (hL _ mM0) sM0 rfl dX12_toy_11 ?_
    refine lv_iload_n hC.x hC.b dX12_toy_14 rfl (lv_at hl 1 rfl) ?_
    refine lv_ishr hC.x hC.b dX12_toy_15 ?_
    refine lv_iconst (v := 1) hC.x hC.b dX12_toy_16 rfl ?_
    refine lv_iand hC.x hC.b dX12_toy_17 ?_
    refine n_i h (fun x2 h => ?_)
    refine lv_istore_n (lv' := [(3, .int x2), (0, .ref (ad 0)), (1, .int p0), (2, .int p1)]) hC.x hC.b dX12_toy_18 rfl hl (by decide) rfl (fun ls hl => ?_)
    refine lv_aload_n hC.x hC.b dX12_toy_19 rfl (lv_at hl 1 rfl) ?_
    refine lv_iload_n hC.x hC.b dX12_toy_20 rfl (lv_at hl 3 rfl) ?_
    obtain ⟨j3, ej3, h⟩ := jn_e h
    have hj3 : ∀ (x4 : Int32) (H : Heap) (locs : List Loc) (ls : Array Slot), (j3 x4) = some (rv, memz) → gH D cy shM ad L (gA ad L) s.heap mem H locs → lv_has ls 4 [(3, .int x2)] → W p l e R s m args below meth c H locs 0 0 Q (F0 m 45 ls [.int x4, .ref (ad 0)]) := by
      intro x4 H locs ls h hH hl
      have h := ap1 ej3 h
      refine r_puti hC hF hH pl_X12_19_12 (hL _ mM0) sM0 rfl h dX12_toy_45 (fun m5 H locs h hH => ?_)
      refine lv_iload_n hC.x hC.b dX12_toy_48 rfl (lv_at hl 0 rfl) ?_
      rw [hQ]
      exact e_i hC hr hH h dX12_toy_49
    clear ej3
    refine b_if_eq (tgt := 35) hC dX12_toy_21 (by decide) h (fun h => ?_) (fun h => ?_)
    · refine lv_aload_n hC.x hC.b dX12_toy_35 rfl (lv_at hl 1 rfl) ?_
      refine r_geti hC hH fl_X12_19_12 (hL _ mM0) sM0 rfl dX12_toy_36 ?_
      refine lv_iconst (v := 1) hC.x hC.b dX12_toy_39 rfl ?_
      refine lv_iload_n hC.x hC.b dX12_toy_40 rfl (lv_at hl 2 rfl) ?_
      refine lv_ishl hC.x hC.b dX12_toy_41 ?_
      refine lv_iconst (v := -1) hC.x hC.b dX12_toy_42 rfl ?_
      refine lv_ixor hC.x hC.b dX12_toy_43 ?_
      refine lv_iand hC.x hC.b dX12_toy_44 ?_
      exact hj3 ((gI mem 0 3) &&& (((1 : Int32) <<< (p0 &&& 31)) ^^^ (-1 : Int32))) H locs ls h hH (lv_sub hl [0] rfl)
    · refine lv_aload_n hC.x hC.b dX12_toy_24 rfl (lv_at hl 1 rfl) ?_
      refine r_geti hC hH fl_X12_19_12 (hL _ mM0) sM0 rfl dX12_toy_25 ?_
      refine lv_iconst (v := 1) hC.x hC.b dX12_toy_28 rfl ?_
      refine lv_iload_n hC.x hC.b dX12_toy_29 rfl (lv_at hl 2 rfl) ?_
      refine lv_ishl hC.x hC.b dX12_toy_30 ?_
      refine lv_ior hC.x hC.b dX12_toy_31 ?_
      refine lv_goto (tgt := 45) hC.x hC.b dX12_toy_32 (by decide) ?_
      exact hj3 ((gI mem 0 3) ||| ((1 : Int32) <<< (p0 &&& 31))) H locs ls h hH (lv_sub hl [0] rfl)
  · refine lv_iconst (v := -1) hC.x hC.b dX12_toy_8 rfl ?_
    rw [hQ]
    exact e_i hC hr hH h dX12_toy_9
def f_X12_door (mem : gMem) (p0 : Int32) : Option (Int32 × gMem) := bd (f_X12_isBoard p0) fun (x1 : Int32) => if x1 = 0 then (some ((-1 : Int32), mem)) else lt1 (gI mem 0 4) fun (x2 : Int32) => lt1 (gsI mem 0 4 p0) fun (m3 : gMem) => some (x2, m3)
set_option maxRecDepth 100000 in
set_option maxHeartbeats 4000000 in
theorem c_X12_door {l : Launch} {E : State → Prop} {D : va_G} {cy : Nat → ClassId} {ad : Nat → Nat} {L : List Nat} {mem : gMem} {p0 : Int32} {rv : Int32} {memz : gMem} (hk : gOk ad L) (hL : ∀ o ∈ LM0, o ∈ L) (hE : gEok ad L E)  (h : f_X12_door mem p0 = some (rv, memz)) : gMet l yX12_door cX12_door 3 (some .int) 2 44 E D cy shM ad L [.ref (ad 0), .int p0] mem memz (some (.int rv)) := by
  refine g_go (own := RX12) (by decide +kernel) rfl hE (Nat.le_of_ble_eq_true rfl) ?_
  intro p e s m args below meth c R Q hargs hR hQ hEs hC hr hX H locs ls hH hl
  have hF := gF_of hk
  have hl : lv_has ls 3 [(0, .ref (ad 0)), (1, .int p0)] := hl
  refine lv_aload_n hC.x hC.b dX12_door_0 rfl (lv_at hl 0 rfl) ?_
  refine lv_iload_n hC.x hC.b dX12_door_1 rfl (lv_at hl 1 rfl) ?_
  obtain ⟨x1, hf1, h⟩ := bd_e h
  refine c_V1 (As := [.int p0]) (rest := []) (o := 0) (q := (RX12, TX12, 74)) hC hX hE.2.1 hF hH (c_X12_isBoard (l := l) hk hL hE hf1) kw163 kw164 kw165 kw5 kw166 a_X12_isBoard.1 a_X12_isBoard.2 (hL _ mM0) sM0 rfl rfl hl.1 (rmk hR (by decide) (by decide)) (Nat.le_of_ble_eq_true rfl) dX12_door_2 (fun H locs hH => ?_)
  refine b_if_ne (tgt := 10) hC dX12_door_5 (by decide) h (fun h => ?_) (fun h => ?_)
  · refine lv_aload_n hC.x hC.b dX12_door_10 rfl (lv_at hl 0 rfl) ?_
    refine r_geti hC hH fl_X12_22_12 (hL _ mM0) sM0 rfl dX12_door_11 ?_
    refine n_i h (fun x2 h => ?_)
    refine lv_istore_n (lv' := [(2, .int x2), (0, .ref (ad 0)), (1, .int p0)]) hC.x hC.b dX12_door_14 rfl hl (by decide) rfl (fun ls hl => ?_)
    refine lv_aload_n hC.x hC.b dX12_door_15 rfl (lv_at hl 1 rfl) ?_
    refine lv_iload_n hC.x hC.b dX12_door_16 rfl (lv_at hl 2 rfl) ?_
    refine r_puti hC hF hH pl_X12_22_12 (hL _ mM0) sM0 rfl h dX12_door_17 (fun m3 H locs h hH => ?_)
    refine lv_iload_n hC.x hC.b dX12_door_20 rfl (lv_at hl 0 rfl) ?_
    rw [hQ]
    exact e_i hC hr hH h dX12_door_21
  · refine lv_iconst (v := -1) hC.x hC.b dX12_door_8 rfl ?_
    rw [hQ]
    exact e_i hC hr hH h dX12_door_9

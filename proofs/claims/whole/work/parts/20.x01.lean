theorem fl_X2_34_2 : gFl RX2 34 2 16 := ⟨RX2, TX2, 17, "OnTiptoe$House", rfl, inW2, by decide, kw50, Or.inl rfl⟩
def f_X2_setFacts (L : List Nat) (mem : gMem) (p0 : Int32) (p1 : Int32) (p2 : Int32) (p3 : Int32) (p4 : Int32) : Option gMem := if okI (0 : Int32) 6 then lt1 (gsI mem 17 (ix (0 : Int32)) (p0 - p0 / (12 : Int32) * (12 : Int32))) fun (m1 : gMem) => if okI (1 : Int32) 6 then lt1 (gsI m1 17 (ix (1 : Int32)) (p1 - p1 / (6 : Int32) * (6 : Int32))) fun (m2 : gMem) => if okI (2 : Int32) 6 then lt1 (gsI m2 17 (ix (2 : Int32)) (p1 / (6 : Int32))) fun (m3 : gMem) => if okI (3 : Int32) 6 then lt1 (gsI m3 17 (ix (3 : Int32)) p2) fun (m4 : gMem) => if okI (4 : Int32) 6 then lt1 (gsI m4 17 (ix (4 : Int32)) p3) fun (m5 : gMem) => if okI (5 : Int32) 6 then lt1 (gsI m5 17 (ix (5 : Int32)) p4) fun (m6 : gMem) => some m6 else none else none else none else none else none else none
set_option maxRecDepth 100000 in
set_option maxHeartbeats 4000000 in
theorem c_X2_setFacts {l : Launch} {E : State → Prop} {D : va_G} {cy : Nat → ClassId} {ad : Nat → Nat} {L : List Nat} {mem : gMem} {p0 : Int32} {p1 : Int32} {p2 : Int32} {p3 : Int32} {p4 : Int32} {memz : gMem} (hk : gOk ad L) (hL : ∀ o ∈ LX0, o ∈ L) (hE : gEok ad L E)  (h : f_X2_setFacts L mem p0 p1 p2 p3 p4 = some memz) : gMet l yX2_setFacts cX2_setFacts 6 none 0 0 E D cy shX ad L [.ref (ad 10), .int p0, .int p1, .int p2, .int p3, .int p4] mem memz none := by
  refine g_go (own := RX2) (by decide +kernel) rfl hE (Nat.le_of_ble_eq_true rfl) ?_
  intro p e s m args below meth c R Q hargs hR hQ hEs hC hr hX H locs ls hH hl
  have hF := gF_of hk
  have hl : lv_has ls 6 [(0, .ref (ad 10)), (1, .int p0), (2, .int p1), (3, .int p2), (4, .int p3), (5, .int p4)] := hl
  refine lv_aload_n hC.x hC.b dX2_setFacts_0 rfl (lv_at hl 0 rfl) ?_
  refine r_getc (z := 17) hC hH fl_X2_34_2 (hL _ mX10) sX10 rfl dX2_setFacts_1 ?_
  refine lv_iconst (v := 0) hC.x hC.b dX2_setFacts_4 rfl ?_
  refine lv_iload_n hC.x hC.b dX2_setFacts_5 rfl (lv_at hl 1 rfl) ?_
  refine lv_bipush (v := 12) hC.x hC.b dX2_setFacts_6 rfl ?_
  refine lv_irem hC.x hC.b dX2_setFacts_8 (by decide) ?_
  refine r_iast hC hF hH (hL _ mX17) sX17 h dX2_setFacts_9 (fun m1 H locs h hH => ?_)
  refine lv_aload_n hC.x hC.b dX2_setFacts_10 rfl (lv_at hl 0 rfl) ?_
  refine r_getc (z := 17) hC hH fl_X2_34_2 (hL _ mX10) sX10 rfl dX2_setFacts_11 ?_
  refine lv_iconst (v := 1) hC.x hC.b dX2_setFacts_14 rfl ?_
  refine lv_iload_n hC.x hC.b dX2_setFacts_15 rfl (lv_at hl 2 rfl) ?_
  refine lv_bipush (v := 6) hC.x hC.b dX2_setFacts_16 rfl ?_
  refine lv_irem hC.x hC.b dX2_setFacts_18 (by decide) ?_
  refine r_iast hC hF hH (hL _ mX17) sX17 h dX2_setFacts_19 (fun m2 H locs h hH => ?_)
  refine lv_aload_n hC.x hC.b dX2_setFacts_20 rfl (lv_at hl 0 rfl) ?_
  refine r_getc (z := 17) hC hH fl_X2_34_2 (hL _ mX10) sX10 rfl dX2_setFacts_21 ?_
  refine lv_iconst (v := 2) hC.x hC.b dX2_setFacts_24 rfl ?_
  refine lv_iload_n hC.x hC.b dX2_setFacts_25 rfl (lv_at hl 2 rfl) ?_
  refine lv_bipush (v := 6) hC.x hC.b dX2_setFacts_26 rfl ?_
  refine lv_idiv hC.x hC.b dX2_setFacts_28 (by decide) ?_
  refine r_iast hC hF hH (hL _ mX17) sX17 h dX2_setFacts_29 (fun m3 H locs h hH => ?_)
  refine lv_aload_n hC.x hC.b dX2_setFacts_30 rfl (lv_at hl 0 rfl) ?_
  refine r_getc (z := 17) hC hH fl_X2_34_2 (hL _ mX10) sX10 rfl dX2_setFacts_31 ?_
  refine lv_iconst (v := 3) hC.x hC.b dX2_setFacts_34 rfl ?_
  refine lv_iload_n hC.x hC.b dX2_setFacts_35 rfl (lv_at hl 3 rfl) ?_
  refine r_iast hC hF hH (hL _ mX17) sX17 h dX2_setFacts_36 (fun m4 H locs h hH => ?_)
  refine lv_aload_n hC.x hC.b dX2_setFacts_37 rfl (lv_at hl 0 rfl) ?_
  refine r_getc (z := 17) hC hH fl_X2_34_2 (hL _ mX10) sX10 rfl dX2_setFacts_38 ?_
  refine lv_iconst (v := 4) hC.x hC.b dX2_setFacts_41 rfl ?_
  refine lv_iload hC.x hC.b dX2_setFacts_42 (lv_at hl 4 rfl) ?_
  refine r_iast hC hF hH (hL _ mX17) sX17 h dX2_setFacts_44 (fun m5 H locs h hH => ?_)
  refine lv_aload_n hC.x hC.b dX2_setFacts_45 rfl (lv_at hl 0 rfl) ?_
  refine r_getc (z := 17) hC hH fl_X2_34_2 (hL _ mX10) sX10 rfl dX2_setFacts_46 ?_
  refine lv_iconst (v := 5) hC.x hC.b dX2_setFacts_49 rfl ?_
  refine lv_iload hC.x hC.b dX2_setFacts_50 (lv_at hl 5 rfl) ?_
  refine r_iast hC hF hH (hL _ mX17) sX17 h dX2_setFacts_52 (fun m6 H locs h hH => ?_)
  rw [hQ]
  exact e_v hC hr hH h dX2_setFacts_53
theorem pl_X3_24_3 : gPl RX3 24 3 0 "I" := ⟨RX3, TX3, 6, tyX3, "OnTiptoe$Night", rfl, inW3, tyX3_ok, nmX3, by decide, kw320, Or.inl rfl, rfl, rfl⟩
theorem pl_X3_28_3 : gPl RX3 28 3 5 "I" := ⟨RX3, TX3, 6, tyX3, "OnTiptoe$Night", rfl, inW3, tyX3_ok, nmX3, by decide, kw464, Or.inl rfl, rfl, rfl⟩
def f_X3_clear (L : List Nat) (mem : gMem) (g0 : Nat) : Option gMem := lt1 (gsI mem g0 0 (0 : Int32)) fun (m1 : gMem) => lt1 (gsI m1 g0 5 (0 : Int32)) fun (m2 : gMem) => some m2
set_option maxRecDepth 100000 in
set_option maxHeartbeats 4000000 in
theorem c_X3_clear {l : Launch} {E : State → Prop} {D : va_G} {cy : Nat → ClassId} {ad : Nat → Nat} {L : List Nat} {mem : gMem} {g0 : Nat} {memz : gMem} (hk : gOk ad L) (hL : ∀ o ∈ LX0, o ∈ L) (hE : gEok ad L E) (hg0 : isN g0) (h : f_X3_clear L mem g0 = some memz) : gMet l yX3_clear cX3_clear 1 none 0 0 E D cy shX ad L [.ref (ad g0)] mem memz none := by
  refine g_go (own := RX3) (by decide +kernel) rfl hE (Nat.le_of_ble_eq_true rfl) ?_
  intro p e s m args below meth c R Q hargs hR hQ hEs hC hr hX H locs ls hH hl
  have hF := gF_of hk
  have hl : lv_has ls 1 [(0, .ref (ad g0))] := hl
  refine lv_aload_n hC.x hC.b dX3_clear_0 rfl (lv_at hl 0 rfl) ?_
  refine lv_iconst (v := 0) hC.x hC.b dX3_clear_1 rfl ?_
  refine r_puti hC hF hH pl_X3_24_3 (hL _ (mN hg0 (k := 0) (by decide))) (sN0 hg0) rfl h dX3_clear_2 (fun m1 H locs h hH => ?_)
  refine lv_aload_n hC.x hC.b dX3_clear_5 rfl (lv_at hl 0 rfl) ?_
  refine lv_iconst (v := 0) hC.x hC.b dX3_clear_6 rfl ?_
  refine r_puti hC hF hH pl_X3_28_3 (hL _ (mN hg0 (k := 0) (by decide))) (sN0 hg0) rfl h dX3_clear_7 (fun m2 H locs h hH => ?_)
  rw [hQ]
  exact e_v hC hr hH h dX3_clear_10
theorem fl_X3_28_3 : gFl RX3 28 3 5 := ⟨RX3, TX3, 6, "OnTiptoe$Night", rfl, inW3, by decide, kw464, Or.inl rfl⟩
theorem fl_X3_21_3 : gFl RX3 21 3 4 := ⟨RX3, TX3, 6, "OnTiptoe$Night", rfl, inW3, by decide, kw71, Or.inl rfl⟩
def f_X3_addCode (L : List Nat) (mem : gMem) (g0 : Nat) (p0 : Int32) : Option gMem := if (gI mem g0 5) < 0 then (some mem) else if (100 : Int32) ≤ (gI mem g0 5) then (some mem) else if okI (gI mem g0 5) 100 then lt1 (gsI mem (g0 + 4) (ix (gI mem g0 5)) p0) fun (m1 : gMem) => lt1 (gsI m1 g0 5 ((gI m1 g0 5) + (1 : Int32))) fun (m2 : gMem) => some m2 else none
set_option maxRecDepth 100000 in
set_option maxHeartbeats 4000000 in
theorem c_X3_addCode {l : Launch} {E : State → Prop} {D : va_G} {cy : Nat → ClassId} {ad : Nat → Nat} {L : List Nat} {mem : gMem} {g0 : Nat} {p0 : Int32} {memz : gMem} (hk : gOk ad L) (hL : ∀ o ∈ LX0, o ∈ L) (hE : gEok ad L E) (hg0 : isN g0) (h : f_X3_addCode L mem g0 p0 = some memz) : gMet l yX3_addCode cX3_addCode 2 none 0 0 E D cy shX ad L [.ref (ad g0), .int p0] mem memz none := by
  refine g_go (own := RX3) (by decide +kernel) rfl hE (Nat.le_of_ble_eq_true rfl) ?_
  intro p e s m args below meth c R Q hargs hR hQ hEs hC hr hX H locs ls hH hl
  have hF := gF_of hk
  have hl : lv_has ls 2 [(0, .ref (ad g0)), (1, .int p0)] := hl
  refine lv_aload_n hC.x hC.b dX3_addCode_0 rfl (lv_at hl 0 rfl) ?_
  refine r_geti hC hH fl_X3_28_3 (hL _ (mN hg0 (k := 0) (by decide))) (sN0 hg0) rfl dX3_addCode_1 ?_
  refine b_if_lt (tgt := 36) hC dX3_addCode_4 (by decide) h (fun h => ?_) (fun h => ?_)
  · rw [hQ]
    exact e_v hC hr hH h dX3_addCode_36
  · refine lv_aload_n hC.x hC.b dX3_addCode_7 rfl (lv_at hl 0 rfl) ?_
    refine r_geti hC hH fl_X3_28_3 (hL _ (mN hg0 (k := 0) (by decide))) (sN0 hg0) rfl dX3_addCode_8 ?_
    refine lv_bipush (v := 100) hC.x hC.b dX3_addCode_11 rfl ?_
    refine b_ic_ge (tgt := 36) hC dX3_addCode_13 (by decide) h (fun h => ?_) (fun h => ?_)
    · rw [hQ]
      exact e_v hC hr hH h dX3_addCode_36
    · refine lv_aload_n hC.x hC.b dX3_addCode_16 rfl (lv_at hl 0 rfl) ?_
      refine r_getc (z := (g0 + 4)) hC hH fl_X3_21_3 (hL _ (mN hg0 (k := 0) (by decide))) (sN0 hg0) rfl dX3_addCode_17 ?_
      refine lv_aload_n hC.x hC.b dX3_addCode_20 rfl (lv_at hl 0 rfl) ?_
      refine r_geti hC hH fl_X3_28_3 (hL _ (mN hg0 (k := 0) (by decide))) (sN0 hg0) rfl dX3_addCode_21 ?_
      refine lv_iload_n hC.x hC.b dX3_addCode_24 rfl (lv_at hl 1 rfl) ?_
      refine r_iast hC hF hH (hL _ (mN hg0 (k := 4) (by decide))) (sN4 hg0) h dX3_addCode_25 (fun m1 H locs h hH => ?_)
      refine lv_aload_n hC.x hC.b dX3_addCode_26 rfl (lv_at hl 0 rfl) ?_
      refine lv_dup hC.x hC.b dX3_addCode_27 rfl ?_
      refine r_geti hC hH fl_X3_28_3 (hL _ (mN hg0 (k := 0) (by decide))) (sN0 hg0) rfl dX3_addCode_28 ?_
      refine lv_iconst (v := 1) hC.x hC.b dX3_addCode_31 rfl ?_
      refine lv_iadd hC.x hC.b dX3_addCode_32 ?_
      refine r_puti hC hF hH pl_X3_28_3 (hL _ (mN hg0 (k := 0) (by decide))) (sN0 hg0) rfl h dX3_addCode_33 (fun m2 H locs h hH => ?_)
      rw [hQ]
      exact e_v hC hr hH h dX3_addCode_36
theorem fl_X3_24_3 : gFl RX3 24 3 0 := ⟨RX3, TX3, 6, "OnTiptoe$Night", rfl, inW3, by decide, kw320, Or.inl rfl⟩
theorem fl_X3_9_3 : gFl RX3 9 3 1 := ⟨RX3, TX3, 6, "OnTiptoe$Night", rfl, inW3, by decide, kw68, Or.inl rfl⟩
theorem fl_X3_15_3 : gFl RX3 15 3 2 := ⟨RX3, TX3, 6, "OnTiptoe$Night", rfl, inW3, by decide, kw69, Or.inl rfl⟩
theorem fl_X3_18_3 : gFl RX3 18 3 3 := ⟨RX3, TX3, 6, "OnTiptoe$Night", rfl, inW3, by decide, kw70, Or.inl rfl⟩
def f_X3_addClause (L : List Nat) (mem : gMem) (g0 : Nat) (p0 : Int32) (p1 : Int32) : Option gMem := if (gI mem g0 0) < 0 then (some mem) else if (10 : Int32) ≤ (gI mem g0 0) then (some mem) else if okI (gI mem g0 0) 10 then lt1 (gsI mem (g0 + 1) (ix (gI mem g0 0)) p0) fun (m1 : gMem) => if okI (gI m1 g0 0) 10 then lt1 (gsI m1 (g0 + 2) (ix (gI m1 g0 0)) p1) fun (m2 : gMem) => if okI (gI m2 g0 0) 10 then lt1 (gsI m2 (g0 + 3) (ix (gI m2 g0 0)) (gI m2 g0 5)) fun (m3 : gMem) => lt1 (gsI m3 g0 0 ((gI m3 g0 0) + (1 : Int32))) fun (m4 : gMem) => some m4 else none else none else none
set_option maxRecDepth 100000 in
set_option maxHeartbeats 4000000 in
theorem c_X3_addClause {l : Launch} {E : State → Prop} {D : va_G} {cy : Nat → ClassId} {ad : Nat → Nat} {L : List Nat} {mem : gMem} {g0 : Nat} {p0 : Int32} {p1 : Int32} {memz : gMem} (hk : gOk ad L) (hL : ∀ o ∈ LX0, o ∈ L) (hE : gEok ad L E) (hg0 : isN g0) (h : f_X3_addClause L mem g0 p0 p1 = some memz) : gMet l yX3_addClause cX3_addClause 3 none 0 0 E D cy shX ad L [.ref (ad g0), .int p0, .int p1] mem memz none := by
  refine g_go (own := RX3) (by decide +kernel) rfl hE (Nat.le_of_ble_eq_true rfl) ?_
  intro p e s m args below meth c R Q hargs hR hQ hEs hC hr hX H locs ls hH hl
  have hF := gF_of hk
  have hl : lv_has ls 3 [(0, .ref (ad g0)), (1, .int p0), (2, .int p1)] := hl
  refine lv_aload_n hC.x hC.b dX3_addClause_0 rfl (lv_at hl 0 rfl) ?_
  refine r_geti hC hH fl_X3_24_3 (hL _ (mN hg0 (k := 0) (by decide))) (sN0 hg0) rfl dX3_addClause_1 ?_
  refine b_if_lt (tgt := 59) hC dX3_addClause_4 (by decide) h (fun h => ?_) (fun h => ?_)
  · rw [hQ]
    exact e_v hC hr hH h dX3_addClause_59
  · refine lv_aload_n hC.x hC.b dX3_addClause_7 rfl (lv_at hl 0 rfl) ?_
    refine r_geti hC hH fl_X3_24_3 (hL _ (mN hg0 (k := 0) (by decide))) (sN0 hg0) rfl dX3_addClause_8 ?_
    refine lv_bipush (v := 10) hC.x hC.b dX3_addClause_11 rfl ?_
    refine b_ic_ge (tgt := 59) hC dX3_addClause_13 (by decide) h (fun h => ?_) (fun h => ?_)
    · rw [hQ]
      exact e_v hC hr hH h dX3_addClause_59
    · refine lv_aload_n hC.x hC.b dX3_addClause_16 rfl (lv_at hl 0 rfl) ?_
      refine r_getc (z := (g0 + 1)) hC hH fl_X3_9_3 (hL _ (mN hg0 (k := 0) (by decide))) (sN0 hg0) rfl dX3_addClause_17 ?_
      refine lv_aload_n hC.x hC.b dX3_addClause_20 rfl (lv_at hl 0 rfl) ?_
      refine r_geti hC hH fl_X3_24_3 (hL _ (mN hg0 (k := 0) (by decide))) (sN0 hg0) rfl dX3_addClause_21 ?_
      refine lv_iload_n hC.x hC.b dX3_addClause_24 rfl (lv_at hl 1 rfl) ?_
      refine r_iast hC hF hH (hL _ (mN hg0 (k := 1) (by decide))) (sN1 hg0) h dX3_addClause_25 (fun m1 H locs h hH => ?_)
      refine lv_aload_n hC.x hC.b dX3_addClause_26 rfl (lv_at hl 0 rfl) ?_
      refine r_getc (z := (g0 + 2)) hC hH fl_X3_15_3 (hL _ (mN hg0 (k := 0) (by decide))) (sN0 hg0) rfl dX3_addClause_27 ?_
      refine lv_aload_n hC.x hC.b dX3_addClause_30 rfl (lv_at hl 0 rfl) ?_
      refine r_geti hC hH fl_X3_24_3 (hL _ (mN hg0 (k := 0) (by decide))) (sN0 hg0) rfl dX3_addClause_31 ?_
      refine lv_iload_n hC.x hC.b dX3_addClause_34 rfl (lv_at hl 2 rfl) ?_
      refine r_iast hC hF hH (hL _ (mN hg0 (k := 2) (by decide))) (sN2 hg0) h dX3_addClause_35 (fun m2 H locs h hH => ?_)
      refine lv_aload_n hC.x hC.b dX3_addClause_36 rfl (lv_at hl 0 rfl) ?_
      refine r_getc (z := (g0 + 3)) hC hH fl_X3_18_3 (hL _ (mN hg0 (k := 0) (by decide))) (sN0 hg0) rfl dX3_addClause_37 ?_
      refine lv_aload_n hC.x hC.b dX3_addClause_40 rfl (lv_at hl 0 rfl) ?_
      refine r_geti hC hH fl_X3_24_3 (hL _ (mN hg0 (k := 0) (by decide))) (sN0 hg0) rfl dX3_addClause_41 ?_
      refine lv_aload_n hC.x hC.b dX3_addClause_44 rfl (lv_at hl 0 rfl) ?_
      refine r_geti hC hH fl_X3_28_3 (hL _ (mN hg0 (k := 0) (by decide))) (sN0 hg0) rfl dX3_addClause_45 ?_
      refine r_iast hC hF hH (hL _ (mN hg0 (k := 3) (by decide))) (sN3 hg0) h dX3_addClause_48 (fun m3 H locs h hH => ?_)
      refine lv_aload_n hC.x hC.b dX3_addClause_49 rfl (lv_at hl 0 rfl) ?_
      refine lv_dup hC.x hC.b dX3_addClause_50 rfl ?_
      refine r_geti hC hH fl_X3_24_3 (hL _ (mN hg0 (k := 0) (by decide))) (sN0 hg0) rfl dX3_addClause_51 ?_
      refine lv_iconst (v := 1) hC.x hC.b dX3_addClause_54 rfl ?_
      refine lv_iadd hC.x hC.b dX3_addClause_55 ?_
      refine r_puti hC hF hH pl_X3_24_3 (hL _ (mN hg0 (k := 0) (by decide))) (sN0 hg0) rfl h dX3_addClause_56 (fun m4 H locs h hH => ?_)
      rw [hQ]
      exact e_v hC hr hH h dX3_addClause_59
def s_X3_hasDeep_4 (mem : gMem) (g0 : Nat) (self1 : Int32 → Int32 → Option Int32) (x2 : Int32) (x3 : Int32) : Option Int32 := if (gI mem g0 0) ≤ x3 then (if isB x2 then some x2 else none) else if (10 : Int32) ≤ x3 then (if isB x2 then some x2 else none) else if okI x3 10 then jn ((fun (x5 : Int32) => lt1 (x2 ||| x5) fun (x6 : Int32) => lt1 (x3 + (1 : Int32)) fun (x7 : Int32) => (self1 x6 x7)) : Int32 → Option Int32) fun j4 => if (gI mem (g0 + 1) (ix x3)) = 0 then ((j4 (1 : Int32))) else (j4 (0 : Int32)) else none
def f_X3_hasDeep (L : List Nat) (mem : gMem) (g0 : Nat) : Option Int32 := lq2 (s_X3_hasDeep_4 mem g0) 1000 (0 : Int32) (0 : Int32)
set_option maxRecDepth 100000 in
set_option maxHeartbeats 4000000 in
theorem c_X3_hasDeep {l : Launch} {E : State → Prop} {D : va_G} {cy : Nat → ClassId} {ad : Nat → Nat} {L : List Nat} {mem : gMem} {g0 : Nat} {rv : Int32} (hk : gOk ad L) (hL : ∀ o ∈ LX0, o ∈ L) (hE : gEok ad L E) (hg0 : isN g0) (h : f_X3_hasDeep L mem g0 = some rv) : gMet l yX3_hasDeep cX3_hasDeep 3 (some .boolean) 0 0 E D cy shX ad L [.ref (ad g0)] mem mem (some (.int rv)) := by
  refine g_go (own := RX3) (by decide +kernel) rfl hE (Nat.le_of_ble_eq_true rfl) ?_
  intro p e s m args below meth c R Q hargs hR hQ hEs hC hr hX H locs ls hH hl
  have hF := gF_of hk
  have hl : lv_has ls 3 [(0, .ref (ad g0))] := hl
  refine lv_iconst (v := 0) hC.x hC.b dX3_hasDeep_0 rfl ?_
  refine lv_istore_n (lv' := [(1, .int (0 : Int32)), (0, .ref (ad g0))]) hC.x hC.b dX3_hasDeep_1 rfl hl (by decide) rfl (fun ls hl => ?_)
  refine lv_iconst (v := 0) hC.x hC.b dX3_hasDeep_2 rfl ?_
  refine lv_istore_n (lv' := [(2, .int (0 : Int32)), (1, .int (0 : Int32)), (0, .ref (ad g0))]) hC.x hC.b dX3_hasDeep_3 rfl hl (by decide) rfl (fun ls hl => ?_)
  have hl1 : ∀ (n : Nat) (x2 : Int32) (x3 : Int32) (H : Heap) (locs : List Loc) (ls : Array Slot), lq2 (s_X3_hasDeep_4 mem g0) n x2 x3 = some rv → gH D cy shX ad L (gA ad L) s.heap mem H locs → lv_has ls 3 [(0, .ref (ad g0)), (1, .int x2), (2, .int x3)] → W p l e R s m args below meth c H locs 0 0 Q (F0 m 4 ls []) := by
    intro n
    induction n with
    | zero => intro x2 x3 H locs ls h _ _; exact lq2_0 h
    | succ n ih1 =>
      intro x2 x3 H locs ls h hH hl
      obtain ⟨self1, es1, h⟩ := lq2_s h
      refine lv_iload_n hC.x hC.b dX3_hasDeep_4 rfl (lv_at hl 2 rfl) ?_
      refine lv_aload_n hC.x hC.b dX3_hasDeep_5 rfl (lv_at hl 0 rfl) ?_
      refine r_geti hC hH fl_X3_24_3 (hL _ (mN hg0 (k := 0) (by decide))) (sN0 hg0) rfl dX3_hasDeep_6 ?_
      refine b_ic_ge (tgt := 41) hC dX3_hasDeep_9 (by decide) h (fun h => ?_) (fun h => ?_)
      · refine lv_iload_n hC.x hC.b dX3_hasDeep_41 rfl (lv_at hl 1 rfl) ?_
        rw [hQ]
        exact e_zr hC hr hH h dX3_hasDeep_42
      · refine lv_iload_n hC.x hC.b dX3_hasDeep_12 rfl (lv_at hl 2 rfl) ?_
        refine lv_bipush (v := 10) hC.x hC.b dX3_hasDeep_13 rfl ?_
        refine b_ic_ge (tgt := 41) hC dX3_hasDeep_15 (by decide) h (fun h => ?_) (fun h => ?_)
        · refine lv_iload_n hC.x hC.b dX3_hasDeep_41 rfl (lv_at hl 1 rfl) ?_
          rw [hQ]
          exact e_zr hC hr hH h dX3_hasDeep_42
        · refine lv_iload_n hC.x hC.b dX3_hasDeep_18 rfl (lv_at hl 1 rfl) ?_
          refine lv_aload_n hC.x hC.b dX3_hasDeep_19 rfl (lv_at hl 0 rfl) ?_
          refine r_getc (z := (g0 + 1)) hC hH fl_X3_9_3 (hL _ (mN hg0 (k := 0) (by decide))) (sN0 hg0) rfl dX3_hasDeep_20 ?_
          refine lv_iload_n hC.x hC.b dX3_hasDeep_23 rfl (lv_at hl 2 rfl) ?_
          refine r_iald hC hH (hL _ (mN hg0 (k := 1) (by decide))) (sN1 hg0) h dX3_hasDeep_24 (fun h => ?_)
          obtain ⟨j4, ej4, h⟩ := jn_e h
          have hj4 : ∀ (x5 : Int32) (H : Heap) (locs : List Loc) (ls : Array Slot), (j4 x5) = some rv → gH D cy shX ad L (gA ad L) s.heap mem H locs → lv_has ls 3 [(0, .ref (ad g0)), (2, .int x3)] → W p l e R s m args below meth c H locs 0 0 Q (F0 m 33 ls [.int x5, .int x2]) := by
            intro x5 H locs ls h hH hl
            have h := ap1 ej4 h
            refine lv_ior hC.x hC.b dX3_hasDeep_33 ?_
            refine n_i h (fun x6 h => ?_)
            refine lv_istore_n (lv' := [(1, .int x6), (0, .ref (ad g0)), (2, .int x3)]) hC.x hC.b dX3_hasDeep_34 rfl hl (by decide) rfl (fun ls hl => ?_)
            refine i_inc (lv' := fun x7 => [(2, .int x7), (1, .int x6), (0, .ref (ad g0))]) hC dX3_hasDeep_35 hl (k := 2) rfl (by decide) (fun _ => rfl) (z := 1) rfl h (fun x7 ls h hl => ?_)
            refine lv_goto (tgt := 4) hC.x hC.b dX3_hasDeep_38 (by decide) ?_
            exact ih1 x6 x7 H locs ls (ap2 es1 h) hH (lv_sub hl [2, 1, 0] rfl)
          clear ej4
          refine b_if_ne (tgt := 32) hC dX3_hasDeep_25 (by decide) h (fun h => ?_) (fun h => ?_)
          · refine lv_iconst (v := 0) hC.x hC.b dX3_hasDeep_32 rfl ?_
            exact hj4 (0 : Int32) H locs ls h hH (lv_sub hl [0, 2] rfl)
          · refine lv_iconst (v := 1) hC.x hC.b dX3_hasDeep_28 rfl ?_
            refine lv_goto (tgt := 33) hC.x hC.b dX3_hasDeep_29 (by decide) ?_
            exact hj4 (1 : Int32) H locs ls h hH (lv_sub hl [0, 2] rfl)
  exact hl1 _ (0 : Int32) (0 : Int32) H locs ls h hH (lv_sub hl [2, 1, 0] rfl)
def f_X3_testHolds (L : List Nat) (mem : gMem) (p0 : Int32) : Option Int32 := lt1 (p0 / (300 : Int32)) fun (x1 : Int32) => if x1 < 0 then (some (0 : Int32)) else if x1 < (6 : Int32) then (if okI x1 6 then lt1 (gI mem 17 (ix x1)) fun (x2 : Int32) => lt1 (p0 - p0 / (100 : Int32) * (100 : Int32)) fun (x3 : Int32) => lt1 ((p0 / (100 : Int32)) - (p0 / (100 : Int32)) / (3 : Int32) * (3 : Int32)) fun (x4 : Int32) => if x4 = 0 then (if x3 ≤ x2 then (some (0 : Int32)) else some (1 : Int32)) else if x4 = 1 then (if x2 = x3 then (some (1 : Int32)) else some (0 : Int32)) else if x2 ≤ x3 then (some (0 : Int32)) else some (1 : Int32) else none) else some (0 : Int32)
set_option maxRecDepth 100000 in
set_option maxHeartbeats 4000000 in
theorem c_X3_testHolds {l : Launch} {E : State → Prop} {D : va_G} {cy : Nat → ClassId} {ad : Nat → Nat} {L : List Nat} {mem : gMem} {p0 : Int32} {rv : Int32} (hk : gOk ad L) (hL : ∀ o ∈ LX0, o ∈ L) (hE : gEok ad L E)  (h : f_X3_testHolds L mem p0 = some rv) : gMet l yX3_testHolds cX3_testHolds 5 (some .boolean) 0 0 E D cy shX ad L [.int p0, .ref (ad 17)] mem mem (some (.int rv)) := by
  refine g_go (own := RX3) (by decide +kernel) rfl hE (Nat.le_of_ble_eq_true rfl) ?_
  intro p e s m args below meth c R Q hargs hR hQ hEs hC hr hX H locs ls hH hl
  have hF := gF_of hk
  have hl : lv_has ls 5 [(0, .int p0), (1, .ref (ad 17))] := hl
  refine lv_iload_n hC.x hC.b dX3_testHolds_0 rfl (lv_at hl 0 rfl) ?_
  refine lv_sipush (v := 300) hC.x hC.b dX3_testHolds_1 rfl ?_
  refine lv_idiv hC.x hC.b dX3_testHolds_4 (by decide) ?_
  refine n_i h (fun x1 h => ?_)
  refine lv_istore_n (lv' := [(2, .int x1), (0, .int p0), (1, .ref (ad 17))]) hC.x hC.b dX3_testHolds_5 rfl hl (by decide) rfl (fun ls hl => ?_)
  refine lv_iload_n hC.x hC.b dX3_testHolds_6 rfl (lv_at hl 0 rfl) ?_
  refine b_if_lt (tgt := 16) hC dX3_testHolds_7 (by decide) h (fun h => ?_) (fun h => ?_)
  · refine lv_iconst (v := 0) hC.x hC.b dX3_testHolds_16 rfl ?_
    rw [hQ]
    exact e_nr hC hr rfl hH h dX3_testHolds_17
  · refine lv_iload_n hC.x hC.b dX3_testHolds_10 rfl (lv_at hl 0 rfl) ?_
    refine lv_aload_n hC.x hC.b dX3_testHolds_11 rfl (lv_at hl 2 rfl) ?_
    refine r_alen (t := 0) hC hH (hL _ mX17) sX17 (v := 6) rfl dX3_testHolds_12 ?_
    refine b_ic_lt (tgt := 18) hC dX3_testHolds_13 (by decide) h (fun h => ?_) (fun h => ?_)
    · refine lv_aload_n hC.x hC.b dX3_testHolds_18 rfl (lv_at hl 2 rfl) ?_
      refine lv_iload_n hC.x hC.b dX3_testHolds_19 rfl (lv_at hl 0 rfl) ?_
      refine r_iald hC hH (hL _ mX17) sX17 h dX3_testHolds_20 (fun h => ?_)
      refine n_i h (fun x2 h => ?_)
      refine lv_istore_n (lv' := [(3, .int x2), (2, .int x1), (0, .int p0), (1, .ref (ad 17))]) hC.x hC.b dX3_testHolds_21 rfl hl (by decide) rfl (fun ls hl => ?_)
      refine lv_iload_n hC.x hC.b dX3_testHolds_22 rfl (lv_at hl 2 rfl) ?_
      refine lv_bipush (v := 100) hC.x hC.b dX3_testHolds_23 rfl ?_
      refine lv_irem hC.x hC.b dX3_testHolds_25 (by decide) ?_
      refine n_i h (fun x3 h => ?_)
      refine lv_istore (lv' := [(4, .int x3), (3, .int x2), (2, .int x1), (0, .int p0), (1, .ref (ad 17))]) hC.x hC.b dX3_testHolds_26 hl (by decide) rfl (fun ls hl => ?_)
      refine lv_iload_n hC.x hC.b dX3_testHolds_28 rfl (lv_at hl 3 rfl) ?_
      refine lv_bipush (v := 100) hC.x hC.b dX3_testHolds_29 rfl ?_
      refine lv_idiv hC.x hC.b dX3_testHolds_31 (by decide) ?_
      refine lv_iconst (v := 3) hC.x hC.b dX3_testHolds_32 rfl ?_
      refine lv_irem hC.x hC.b dX3_testHolds_33 (by decide) ?_
      refine n_i h (fun x4 h => ?_)
      by_cases hx0 : x4 = 0
      · have h := ifp hx0 h
        refine lv_lookup (off := 26) (tgt := 60) hC.x hC.b dX3_testHolds_34 (by decide) (by rw [hx0]; rfl) (by decide) ?_
        refine lv_iload_n hC.x hC.b dX3_testHolds_60 rfl (lv_at hl 1 rfl) ?_
        refine lv_iload hC.x hC.b dX3_testHolds_61 (lv_at hl 0 rfl) ?_
        refine b_ic_ge (tgt := 70) hC dX3_testHolds_63 (by decide) h (fun h => ?_) (fun h => ?_)
        · refine lv_iconst (v := 0) hC.x hC.b dX3_testHolds_70 rfl ?_
          rw [hQ]
          exact e_nr hC hr rfl hH h dX3_testHolds_71
        · refine lv_iconst (v := 1) hC.x hC.b dX3_testHolds_66 rfl ?_
          refine lv_goto (tgt := 71) hC.x hC.b dX3_testHolds_67 (by decide) ?_
          rw [hQ]
          exact e_nr hC hr rfl hH h dX3_testHolds_71
      have h := ifn hx0 h
      by_cases hx1 : x4 = 1
      · have h := ifp hx1 h
        refine lv_lookup (off := 38) (tgt := 72) hC.x hC.b dX3_testHolds_34 (by decide) (by rw [hx1]; rfl) (by decide) ?_
        refine lv_iload_n hC.x hC.b dX3_testHolds_72 rfl (lv_at hl 1 rfl) ?_
        refine lv_iload hC.x hC.b dX3_testHolds_73 (lv_at hl 0 rfl) ?_
        refine b_ic_ne (tgt := 82) hC dX3_testHolds_75 (by decide) h (fun h => ?_) (fun h => ?_)
        · refine lv_iconst (v := 0) hC.x hC.b dX3_testHolds_82 rfl ?_
          rw [hQ]
          exact e_nr hC hr rfl hH h dX3_testHolds_83
        · refine lv_iconst (v := 1) hC.x hC.b dX3_testHolds_78 rfl ?_
          refine lv_goto (tgt := 83) hC.x hC.b dX3_testHolds_79 (by decide) ?_
          rw [hQ]
          exact e_nr hC hr rfl hH h dX3_testHolds_83
      have h := ifn hx1 h
      refine lv_lookup (off := 50) (tgt := 84) hC.x hC.b dX3_testHolds_34 (by decide) (by have a0 := ne_ti (v := 0) (z := 0) rfl hx0; have a1 := ne_ti (v := 1) (z := 1) rfl hx1; simp [Op.lookupswitch.offset, Ne.symm a0, a0, Ne.symm a1, a1]) (by decide) ?_
      refine lv_iload_n hC.x hC.b dX3_testHolds_84 rfl (lv_at hl 1 rfl) ?_
      refine lv_iload hC.x hC.b dX3_testHolds_85 (lv_at hl 0 rfl) ?_
      refine b_ic_le (tgt := 94) hC dX3_testHolds_87 (by decide) h (fun h => ?_) (fun h => ?_)
      · refine lv_iconst (v := 0) hC.x hC.b dX3_testHolds_94 rfl ?_
        rw [hQ]
        exact e_nr hC hr rfl hH h dX3_testHolds_95
      · refine lv_iconst (v := 1) hC.x hC.b dX3_testHolds_90 rfl ?_
        refine lv_goto (tgt := 95) hC.x hC.b dX3_testHolds_91 (by decide) ?_
        rw [hQ]
        exact e_nr hC hr rfl hH h dX3_testHolds_95
    · refine lv_iconst (v := 0) hC.x hC.b dX3_testHolds_16 rfl ?_
      rw [hQ]
      exact e_nr hC hr rfl hH h dX3_testHolds_17
theorem fl_X4_15_4 : gFl RX4 15 4 1 := ⟨RX4, TX4, 4, "OnTiptoe$Reader", rfl, inW4, by decide, kw443, Or.inl rfl⟩
theorem fl_X4_9_4 : gFl RX4 9 4 0 := ⟨RX4, TX4, 4, "OnTiptoe$Reader", rfl, inW4, by decide, kw56, Or.inl rfl⟩
theorem pl_X4_15_4 : gPl RX4 15 4 1 "I" := ⟨RX4, TX4, 4, tyX4, "OnTiptoe$Reader", rfl, inW4, tyX4_ok, nmX4, by decide, kw443, Or.inl rfl, rfl, rfl⟩
def f_X4_addSign (L : List Nat) (mem : gMem) (p0 : Int32) : Option (Int32 × gMem) := if (gI mem 30 1) < 0 then (some ((0 : Int32), mem)) else if (gI mem 30 1) < (100 : Int32) then (if okI (gI mem 30 1) 100 then lt1 (gsI mem 31 (ix (gI mem 30 1)) (vp_nar .byte p0)) fun (m1 : gMem) => lt1 (gsI m1 30 1 ((gI m1 30 1) + (1 : Int32))) fun (m2 : gMem) => some ((1 : Int32), m2) else none) else some ((0 : Int32), mem)
set_option maxRecDepth 100000 in
set_option maxHeartbeats 4000000 in
theorem c_X4_addSign {l : Launch} {E : State → Prop} {D : va_G} {cy : Nat → ClassId} {ad : Nat → Nat} {L : List Nat} {mem : gMem} {p0 : Int32} {rv : Int32} {memz : gMem} (hk : gOk ad L) (hL : ∀ o ∈ LX0, o ∈ L) (hE : gEok ad L E)  (h : f_X4_addSign L mem p0 = some (rv, memz)) : gMet l yX4_addSign cX4_addSign 2 (some .boolean) 0 0 E D cy shX ad L [.ref (ad 30), .int p0] mem memz (some (.int rv)) := by
  refine g_go (own := RX4) (by decide +kernel) rfl hE (Nat.le_of_ble_eq_true rfl) ?_
  intro p e s m args below meth c R Q hargs hR hQ hEs hC hr hX H locs ls hH hl
  have hF := gF_of hk
  have hl : lv_has ls 2 [(0, .ref (ad 30)), (1, .int p0)] := hl
  refine lv_aload_n hC.x hC.b dX4_addSign_0 rfl (lv_at hl 0 rfl) ?_
  refine r_geti hC hH fl_X4_15_4 (hL _ mX30) sX30 rfl dX4_addSign_1 ?_
  refine b_if_lt (tgt := 16) hC dX4_addSign_4 (by decide) h (fun h => ?_) (fun h => ?_)
  · refine lv_iconst (v := 0) hC.x hC.b dX4_addSign_16 rfl ?_
    rw [hQ]
    exact e_n hC hr rfl hH h dX4_addSign_17
  · refine lv_aload_n hC.x hC.b dX4_addSign_7 rfl (lv_at hl 0 rfl) ?_
    refine r_geti hC hH fl_X4_15_4 (hL _ mX30) sX30 rfl dX4_addSign_8 ?_
    refine lv_bipush (v := 100) hC.x hC.b dX4_addSign_11 rfl ?_
    refine b_ic_lt (tgt := 18) hC dX4_addSign_13 (by decide) h (fun h => ?_) (fun h => ?_)
    · refine lv_aload_n hC.x hC.b dX4_addSign_18 rfl (lv_at hl 0 rfl) ?_
      refine r_getc (z := 31) hC hH fl_X4_9_4 (hL _ mX30) sX30 rfl dX4_addSign_19 ?_
      refine lv_aload_n hC.x hC.b dX4_addSign_22 rfl (lv_at hl 0 rfl) ?_
      refine r_geti hC hH fl_X4_15_4 (hL _ mX30) sX30 rfl dX4_addSign_23 ?_
      refine lv_iload_n hC.x hC.b dX4_addSign_26 rfl (lv_at hl 1 rfl) ?_
      refine r_bast hC hF hH (hL _ mX31) sX31 h dX4_addSign_27 (fun m1 H locs h hH => ?_)
      refine lv_aload_n hC.x hC.b dX4_addSign_28 rfl (lv_at hl 0 rfl) ?_
      refine lv_dup hC.x hC.b dX4_addSign_29 rfl ?_
      refine r_geti hC hH fl_X4_15_4 (hL _ mX30) sX30 rfl dX4_addSign_30 ?_
      refine lv_iconst (v := 1) hC.x hC.b dX4_addSign_33 rfl ?_
      refine lv_iadd hC.x hC.b dX4_addSign_34 ?_
      refine r_puti hC hF hH pl_X4_15_4 (hL _ mX30) sX30 rfl h dX4_addSign_35 (fun m2 H locs h hH => ?_)
      refine lv_iconst (v := 1) hC.x hC.b dX4_addSign_38 rfl ?_
      rw [hQ]
      exact e_n hC hr rfl hH h dX4_addSign_39
    · refine lv_iconst (v := 0) hC.x hC.b dX4_addSign_16 rfl ?_
      rw [hQ]
      exact e_n hC hr rfl hH h dX4_addSign_17
theorem fl_X4_19_4 : gFl RX4 19 4 2 := ⟨RX4, TX4, 4, "OnTiptoe$Reader", rfl, inW4, by decide, kw458, Or.inl rfl⟩
def f_X4_sign (L : List Nat) (mem : gMem) : Option Int32 := if (gI mem 30 2) < 0 then (some (-1 : Int32)) else if (gI mem 30 1) ≤ (gI mem 30 2) then (some (-1 : Int32)) else if (100 : Int32) ≤ (gI mem 30 2) then (some (-1 : Int32)) else if okI (gI mem 30 2) 100 then some (gI mem 31 (ix (gI mem 30 2))) else none
set_option maxRecDepth 100000 in
set_option maxHeartbeats 4000000 in
theorem c_X4_sign {l : Launch} {E : State → Prop} {D : va_G} {cy : Nat → ClassId} {ad : Nat → Nat} {L : List Nat} {mem : gMem} {rv : Int32} (hk : gOk ad L) (hL : ∀ o ∈ LX0, o ∈ L) (hE : gEok ad L E)  (h : f_X4_sign L mem = some rv) : gMet l yX4_sign cX4_sign 1 (some .int) 0 0 E D cy shX ad L [.ref (ad 30)] mem mem (some (.int rv)) := by
  refine g_go (own := RX4) (by decide +kernel) rfl hE (Nat.le_of_ble_eq_true rfl) ?_
  intro p e s m args below meth c R Q hargs hR hQ hEs hC hr hX H locs ls hH hl
  have hF := gF_of hk
  have hl : lv_has ls 1 [(0, .ref (ad 30))] := hl
  refine lv_aload_n hC.x hC.b dX4_sign_0 rfl (lv_at hl 0 rfl) ?_
  refine r_geti hC hH fl_X4_19_4 (hL _ mX30) sX30 rfl dX4_sign_1 ?_
  refine b_if_lt (tgt := 39) hC dX4_sign_4 (by decide) h (fun h => ?_) (fun h => ?_)
  · refine lv_iconst (v := -1) hC.x hC.b dX4_sign_39 rfl ?_
    rw [hQ]
    exact e_ir hC hr hH h dX4_sign_40
  · refine lv_aload_n hC.x hC.b dX4_sign_7 rfl (lv_at hl 0 rfl) ?_
    refine r_geti hC hH fl_X4_19_4 (hL _ mX30) sX30 rfl dX4_sign_8 ?_
    refine lv_aload_n hC.x hC.b dX4_sign_11 rfl (lv_at hl 0 rfl) ?_
    refine r_geti hC hH fl_X4_15_4 (hL _ mX30) sX30 rfl dX4_sign_12 ?_
    refine b_ic_ge (tgt := 39) hC dX4_sign_15 (by decide) h (fun h => ?_) (fun h => ?_)
    · refine lv_iconst (v := -1) hC.x hC.b dX4_sign_39 rfl ?_
      rw [hQ]
      exact e_ir hC hr hH h dX4_sign_40
    · refine lv_aload_n hC.x hC.b dX4_sign_18 rfl (lv_at hl 0 rfl) ?_
      refine r_geti hC hH fl_X4_19_4 (hL _ mX30) sX30 rfl dX4_sign_19 ?_
      refine lv_bipush (v := 100) hC.x hC.b dX4_sign_22 rfl ?_
      refine b_ic_ge (tgt := 39) hC dX4_sign_24 (by decide) h (fun h => ?_) (fun h => ?_)
      · refine lv_iconst (v := -1) hC.x hC.b dX4_sign_39 rfl ?_
        rw [hQ]
        exact e_ir hC hr hH h dX4_sign_40
      · refine lv_aload_n hC.x hC.b dX4_sign_27 rfl (lv_at hl 0 rfl) ?_
        refine r_getc (z := 31) hC hH fl_X4_9_4 (hL _ mX30) sX30 rfl dX4_sign_28 ?_
        refine lv_aload_n hC.x hC.b dX4_sign_31 rfl (lv_at hl 0 rfl) ?_
        refine r_geti hC hH fl_X4_19_4 (hL _ mX30) sX30 rfl dX4_sign_32 ?_
        refine r_bald hC hH (hL _ mX31) sX31 h dX4_sign_35 (fun h => ?_)
        refine lv_goto (tgt := 40) hC.x hC.b dX4_sign_36 (by decide) ?_
        rw [hQ]
        exact e_ir hC hr hH h dX4_sign_40
def f_X5_kind (L : List Nat) (w0 : Nat) : Option Int32 := some (3 : Int32)
set_option maxRecDepth 100000 in
set_option maxHeartbeats 4000000 in
theorem c_X5_kind {l : Launch} {E : State → Prop} {D : va_G} {cy : Nat → ClassId} {ad : Nat → Nat} {L : List Nat} {mem : gMem} {w0 : Nat} {rv : Int32} (hk : gOk ad L) (hL : ∀ o ∈ LX0, o ∈ L) (hE : gEok ad L E) (hw0 : wok L w0) (hkd : wkd w0 = 3 ∨ wkd w0 = 6) (h : f_X5_kind L w0 = some rv) : gMet l yX5_kind cX5_kind 1 (some .int) 0 0 E D cy shX ad L [.ref (ad w0)] mem mem (some (.int rv)) := by
  refine g_go (own := RX5) (by decide +kernel) rfl hE (Nat.le_of_ble_eq_true rfl) ?_
  intro p e s m args below meth c R Q hargs hR hQ hEs hC hr hX H locs ls hH hl
  have hF := gF_of hk
  have hl : lv_has ls 1 [(0, .ref (ad w0))] := hl
  refine lv_iconst (v := 3) hC.x hC.b dX5_kind_0 rfl ?_
  rw [hQ]
  exact e_ir hC hr hH h dX5_kind_1
def f_X5_stepMinutes (L : List Nat) (w0 : Nat) : Option Int32 := some (2 : Int32)
set_option maxRecDepth 100000 in
set_option maxHeartbeats 4000000 in
theorem c_X5_stepMinutes {l : Launch} {E : State → Prop} {D : va_G} {cy : Nat → ClassId} {ad : Nat → Nat} {L : List Nat} {mem : gMem} {w0 : Nat} {rv : Int32} (hk : gOk ad L) (hL : ∀ o ∈ LX0, o ∈ L) (hE : gEok ad L E) (hw0 : wok L w0) (hkd : wkd w0 = 3 ∨ wkd w0 = 6) (h : f_X5_stepMinutes L w0 = some rv) : gMet l yX5_stepMinutes cX5_stepMinutes 1 (some .int) 0 0 E D cy shX ad L [.ref (ad w0)] mem mem (some (.int rv)) := by
  refine g_go (own := RX5) (by decide +kernel) rfl hE (Nat.le_of_ble_eq_true rfl) ?_
  intro p e s m args below meth c R Q hargs hR hQ hEs hC hr hX H locs ls hH hl
  have hF := gF_of hk
  have hl : lv_has ls 1 [(0, .ref (ad w0))] := hl
  refine lv_iconst (v := 2) hC.x hC.b dX5_stepMinutes_0 rfl ?_
  rw [hQ]
  exact e_ir hC hr hH h dX5_stepMinutes_1
def f_X5_noise (L : List Nat) (w0 : Nat) (p0 : Int32) (p1 : Int32) : Option Int32 := some (if (0 : Int32) < (p0 - (3 : Int32)) then (p0 - (3 : Int32)) else (0 : Int32))
set_option maxRecDepth 100000 in
set_option maxHeartbeats 4000000 in
theorem c_X5_noise {l : Launch} {E : State → Prop} {D : va_G} {cy : Nat → ClassId} {ad : Nat → Nat} {L : List Nat} {mem : gMem} {w0 : Nat} {p0 : Int32} {p1 : Int32} {rv : Int32} (hk : gOk ad L) (hL : ∀ o ∈ LX0, o ∈ L) (hE : gEok ad L E) (hw0 : wok L w0) (hkd : wkd w0 = 3 ∨ wkd w0 = 6) (h : f_X5_noise L w0 p0 p1 = some rv) : gMet l yX5_noise cX5_noise 3 (some .int) 1 21 E D cy shX ad L [.ref (ad w0), .int p0, .int p1] mem mem (some (.int rv)) := by
  refine g_go (own := RX5) (by decide +kernel) rfl hE (Nat.le_of_ble_eq_true rfl) ?_
  intro p e s m args below meth c R Q hargs hR hQ hEs hC hr hX H locs ls hH hl
  have hF := gF_of hk
  have hl : lv_has ls 3 [(0, .ref (ad w0)), (1, .int p0), (2, .int p1)] := hl
  refine lv_iconst (v := 0) hC.x hC.b dX5_noise_0 rfl ?_
  refine lv_iload_n hC.x hC.b dX5_noise_1 rfl (lv_at hl 1 rfl) ?_
  refine lv_iconst (v := 3) hC.x hC.b dX5_noise_2 rfl ?_
  refine lv_isub hC.x hC.b dX5_noise_3 ?_
  refine m_max hC hl.1 kw351 kw309 kw310 kw311 (rmM hR (by decide) (Nat.le_of_ble_eq_true rfl)) dX5_noise_4 ?_
  rw [hQ]
  exact e_ir hC hr hH h dX5_noise_7
def f_X6_kind (L : List Nat) (w0 : Nat) : Option Int32 := some (2 : Int32)
set_option maxRecDepth 100000 in
set_option maxHeartbeats 4000000 in
theorem c_X6_kind {l : Launch} {E : State → Prop} {D : va_G} {cy : Nat → ClassId} {ad : Nat → Nat} {L : List Nat} {mem : gMem} {w0 : Nat} {rv : Int32} (hk : gOk ad L) (hL : ∀ o ∈ LX0, o ∈ L) (hE : gEok ad L E) (hw0 : wok L w0) (hkd : wkd w0 = 2 ∨ wkd w0 = 5) (h : f_X6_kind L w0 = some rv) : gMet l yX6_kind cX6_kind 1 (some .int) 0 0 E D cy shX ad L [.ref (ad w0)] mem mem (some (.int rv)) := by
  refine g_go (own := RX6) (by decide +kernel) rfl hE (Nat.le_of_ble_eq_true rfl) ?_
  intro p e s m args below meth c R Q hargs hR hQ hEs hC hr hX H locs ls hH hl
  have hF := gF_of hk
  have hl : lv_has ls 1 [(0, .ref (ad w0))] := hl
  refine lv_iconst (v := 2) hC.x hC.b dX6_kind_0 rfl ?_
  rw [hQ]
  exact e_ir hC hr hH h dX6_kind_1
def f_X6_noise (L : List Nat) (w0 : Nat) (p0 : Int32) (p1 : Int32) : Option Int32 := some (p0 / (2 : Int32))
set_option maxRecDepth 100000 in
set_option maxHeartbeats 4000000 in
theorem c_X6_noise {l : Launch} {E : State → Prop} {D : va_G} {cy : Nat → ClassId} {ad : Nat → Nat} {L : List Nat} {mem : gMem} {w0 : Nat} {p0 : Int32} {p1 : Int32} {rv : Int32} (hk : gOk ad L) (hL : ∀ o ∈ LX0, o ∈ L) (hE : gEok ad L E) (hw0 : wok L w0) (hkd : wkd w0 = 2 ∨ wkd w0 = 5) (h : f_X6_noise L w0 p0 p1 = some rv) : gMet l yX6_noise cX6_noise 3 (some .int) 0 0 E D cy shX ad L [.ref (ad w0), .int p0, .int p1] mem mem (some (.int rv)) := by
  refine g_go (own := RX6) (by decide +kernel) rfl hE (Nat.le_of_ble_eq_true rfl) ?_
  intro p e s m args below meth c R Q hargs hR hQ hEs hC hr hX H locs ls hH hl
  have hF := gF_of hk
  have hl : lv_has ls 3 [(0, .ref (ad w0)), (1, .int p0), (2, .int p1)] := hl
  refine lv_iload_n hC.x hC.b dX6_noise_0 rfl (lv_at hl 1 rfl) ?_
  refine lv_iconst (v := 2) hC.x hC.b dX6_noise_1 rfl ?_
  refine lv_idiv hC.x hC.b dX6_noise_2 (by decide) ?_
  rw [hQ]
  exact e_ir hC hr hH h dX6_noise_3
def f_X7_kind (L : List Nat) (w0 : Nat) : Option Int32 := some (4 : Int32)
set_option maxRecDepth 100000 in
set_option maxHeartbeats 4000000 in
theorem c_X7_kind {l : Launch} {E : State → Prop} {D : va_G} {cy : Nat → ClassId} {ad : Nat → Nat} {L : List Nat} {mem : gMem} {w0 : Nat} {rv : Int32} (hk : gOk ad L) (hL : ∀ o ∈ LX0, o ∈ L) (hE : gEok ad L E) (hw0 : wok L w0) (hkd : wkd w0 = 4) (h : f_X7_kind L w0 = some rv) : gMet l yX7_kind cX7_kind 1 (some .int) 0 0 E D cy shX ad L [.ref (ad w0)] mem mem (some (.int rv)) := by
  refine g_go (own := RX7) (by decide +kernel) rfl hE (Nat.le_of_ble_eq_true rfl) ?_
  intro p e s m args below meth c R Q hargs hR hQ hEs hC hr hX H locs ls hH hl
  have hF := gF_of hk
  have hl : lv_has ls 1 [(0, .ref (ad w0))] := hl
  refine lv_iconst (v := 4) hC.x hC.b dX7_kind_0 rfl ?_
  rw [hQ]
  exact e_ir hC hr hH h dX7_kind_1
def f_X8_kind (L : List Nat) (w0 : Nat) : Option Int32 := some (6 : Int32)
set_option maxRecDepth 100000 in
set_option maxHeartbeats 4000000 in
theorem c_X8_kind {l : Launch} {E : State → Prop} {D : va_G} {cy : Nat → ClassId} {ad : Nat → Nat} {L : List Nat} {mem : gMem} {w0 : Nat} {rv : Int32} (hk : gOk ad L) (hL : ∀ o ∈ LX0, o ∈ L) (hE : gEok ad L E) (hw0 : wok L w0) (hkd : wkd w0 = 6) (h : f_X8_kind L w0 = some rv) : gMet l yX8_kind cX8_kind 1 (some .int) 0 0 E D cy shX ad L [.ref (ad w0)] mem mem (some (.int rv)) := by
  refine g_go (own := RX8) (by decide +kernel) rfl hE (Nat.le_of_ble_eq_true rfl) ?_
  intro p e s m args below meth c R Q hargs hR hQ hEs hC hr hX H locs ls hH hl
  have hF := gF_of hk
  have hl : lv_has ls 1 [(0, .ref (ad w0))] := hl
  refine lv_bipush (v := 6) hC.x hC.b dX8_kind_0 rfl ?_
  rw [hQ]
  exact e_ir hC hr hH h dX8_kind_2
def f_X9_kind (L : List Nat) (w0 : Nat) : Option Int32 := some (0 : Int32)
set_option maxRecDepth 100000 in
set_option maxHeartbeats 4000000 in
theorem c_X9_kind {l : Launch} {E : State → Prop} {D : va_G} {cy : Nat → ClassId} {ad : Nat → Nat} {L : List Nat} {mem : gMem} {w0 : Nat} {rv : Int32} (hk : gOk ad L) (hL : ∀ o ∈ LX0, o ∈ L) (hE : gEok ad L E) (hw0 : wok L w0) (h : f_X9_kind L w0 = some rv) : gMet l yX9_kind cX9_kind 1 (some .int) 0 0 E D cy shX ad L [.ref (ad w0)] mem mem (some (.int rv)) := by
  refine g_go (own := RX9) (by decide +kernel) rfl hE (Nat.le_of_ble_eq_true rfl) ?_
  intro p e s m args below meth c R Q hargs hR hQ hEs hC hr hX H locs ls hH hl
  have hF := gF_of hk
  have hl : lv_has ls 1 [(0, .ref (ad w0))] := hl
  refine lv_iconst (v := 0) hC.x hC.b dX9_kind_0 rfl ?_
  rw [hQ]
  exact e_ir hC hr hH h dX9_kind_1
def f_X9_stepMinutes (L : List Nat) (w0 : Nat) : Option Int32 := some (1 : Int32)
set_option maxRecDepth 100000 in
set_option maxHeartbeats 4000000 in
theorem c_X9_stepMinutes {l : Launch} {E : State → Prop} {D : va_G} {cy : Nat → ClassId} {ad : Nat → Nat} {L : List Nat} {mem : gMem} {w0 : Nat} {rv : Int32} (hk : gOk ad L) (hL : ∀ o ∈ LX0, o ∈ L) (hE : gEok ad L E) (hw0 : wok L w0) (h : f_X9_stepMinutes L w0 = some rv) : gMet l yX9_stepMinutes cX9_stepMinutes 1 (some .int) 0 0 E D cy shX ad L [.ref (ad w0)] mem mem (some (.int rv)) := by
  refine g_go (own := RX9) (by decide +kernel) rfl hE (Nat.le_of_ble_eq_true rfl) ?_
  intro p e s m args below meth c R Q hargs hR hQ hEs hC hr hX H locs ls hH hl
  have hF := gF_of hk
  have hl : lv_has ls 1 [(0, .ref (ad w0))] := hl
  refine lv_iconst (v := 1) hC.x hC.b dX9_stepMinutes_0 rfl ?_
  rw [hQ]
  exact e_ir hC hr hH h dX9_stepMinutes_1
def f_X9_noise (L : List Nat) (w0 : Nat) (p0 : Int32) (p1 : Int32) : Option Int32 := some p0
set_option maxRecDepth 100000 in
set_option maxHeartbeats 4000000 in
theorem c_X9_noise {l : Launch} {E : State → Prop} {D : va_G} {cy : Nat → ClassId} {ad : Nat → Nat} {L : List Nat} {mem : gMem} {w0 : Nat} {p0 : Int32} {p1 : Int32} {rv : Int32} (hk : gOk ad L) (hL : ∀ o ∈ LX0, o ∈ L) (hE : gEok ad L E) (hw0 : wok L w0) (h : f_X9_noise L w0 p0 p1 = some rv) : gMet l yX9_noise cX9_noise 3 (some .int) 0 0 E D cy shX ad L [.ref (ad w0), .int p0, .int p1] mem mem (some (.int rv)) := by
  refine g_go (own := RX9) (by decide +kernel) rfl hE (Nat.le_of_ble_eq_true rfl) ?_
  intro p e s m args below meth c R Q hargs hR hQ hEs hC hr hX H locs ls hH hl
  have hF := gF_of hk
  have hl : lv_has ls 3 [(0, .ref (ad w0)), (1, .int p0), (2, .int p1)] := hl
  refine lv_iload_n hC.x hC.b dX9_noise_0 rfl (lv_at hl 1 rfl) ?_
  rw [hQ]
  exact e_ir hC hr hH h dX9_noise_1
theorem fw_X9_22 : ∀ j, j < 7 → gFl RX9 22 (kci j) 2 := by
  intro j hj
  rcases (show j = 0 ∨ j = 1 ∨ j = 2 ∨ j = 3 ∨ j = 4 ∨ j = 5 ∨ j = 6 by omega) with rfl | rfl | rfl | rfl | rfl | rfl | rfl
  · exact ⟨RX9, TX9, 6, "OnTiptoe$Walker", rfl, inW9, by decide, kw232, Or.inl rfl⟩
  · exact ⟨RX1, TX1, 6, "OnTiptoe$Walker", rfl, inW1, by decide, kw232, Or.inl rfl⟩
  · exact ⟨RX6, TX6, 6, "OnTiptoe$Walker", rfl, inW6, by decide, kw232, Or.inl rfl⟩
  · exact ⟨RX5, TX5, 6, "OnTiptoe$Walker", rfl, inW5, by decide, kw232, Or.inl rfl⟩
  · exact ⟨RX7, TX7, 6, "OnTiptoe$Walker", rfl, inW7, by decide, kw232, Or.inl rfl⟩
  · exact ⟨RX0, TX0, 6, "OnTiptoe$Walker", rfl, inW0, by decide, kw232, Or.inl rfl⟩
  · exact ⟨RX8, TX8, 8, "OnTiptoe$Walker", rfl, inW8, by decide, kw232, Or.inl rfl⟩
theorem pw_X9_25 : ∀ j, j < 7 → gPl RX9 25 (kci j) 3 "I" := by
  intro j hj
  rcases (show j = 0 ∨ j = 1 ∨ j = 2 ∨ j = 3 ∨ j = 4 ∨ j = 5 ∨ j = 6 by omega) with rfl | rfl | rfl | rfl | rfl | rfl | rfl
  · exact ⟨RX9, TX9, 6, tyX9, "OnTiptoe$Walker", rfl, inW9, tyX9_ok, nmX9, by decide, kw1080, Or.inl rfl, rfl, rfl⟩
  · exact ⟨RX1, TX1, 6, tyX1, "OnTiptoe$Walker", rfl, inW1, tyX1_ok, nmX1, by decide, kw1080, Or.inl rfl, rfl, rfl⟩
  · exact ⟨RX6, TX6, 6, tyX6, "OnTiptoe$Walker", rfl, inW6, tyX6_ok, nmX6, by decide, kw1080, Or.inl rfl, rfl, rfl⟩
  · exact ⟨RX5, TX5, 6, tyX5, "OnTiptoe$Walker", rfl, inW5, tyX5_ok, nmX5, by decide, kw1080, Or.inl rfl, rfl, rfl⟩
  · exact ⟨RX7, TX7, 6, tyX7, "OnTiptoe$Walker", rfl, inW7, tyX7_ok, nmX7, by decide, kw1080, Or.inl rfl, rfl, rfl⟩
  · exact ⟨RX0, TX0, 6, tyX0, "OnTiptoe$Walker", rfl, inW0, tyX0_ok, nmX0, by decide, kw1080, Or.inl rfl, rfl, rfl⟩
  · exact ⟨RX8, TX8, 8, tyX8, "OnTiptoe$Walker", rfl, inW8, tyX8_ok, nmX8, by decide, kw1080, Or.inl rfl, rfl, rfl⟩
def f_X9_keep (L : List Nat) (mem : gMem) (w0 : Nat) : Option gMem := lt1 (gsI mem w0 3 (gI mem w0 2)) fun (m1 : gMem) => some m1
set_option maxRecDepth 100000 in
set_option maxHeartbeats 4000000 in
theorem c_X9_keep {l : Launch} {E : State → Prop} {D : va_G} {cy : Nat → ClassId} {ad : Nat → Nat} {L : List Nat} {mem : gMem} {w0 : Nat} {memz : gMem} (hk : gOk ad L) (hL : ∀ o ∈ LX0, o ∈ L) (hE : gEok ad L E) (hw0 : wok L w0) (h : f_X9_keep L mem w0 = some memz) : gMet l yX9_keep cX9_keep 1 none 0 0 E D cy shX ad L [.ref (ad w0)] mem memz none := by
  refine g_go (own := RX9) (by decide +kernel) rfl hE (Nat.le_of_ble_eq_true rfl) ?_
  intro p e s m args below meth c R Q hargs hR hQ hEs hC hr hX H locs ls hH hl
  have hF := gF_of hk
  have hl : lv_has ls 1 [(0, .ref (ad w0))] := hl
  refine lv_aload_n hC.x hC.b dX9_keep_0 rfl (lv_at hl 0 rfl) ?_
  refine lv_aload_n hC.x hC.b dX9_keep_1 rfl (lv_at hl 0 rfl) ?_
  refine r_geti hC hH (fw_X9_22 _ hw0.2.2.1) hw0.2.2.2.1 (sW0 hw0) rfl dX9_keep_2 ?_
  refine r_puti hC hF hH (pw_X9_25 _ hw0.2.2.1) hw0.2.2.2.1 (sW0 hw0) rfl h dX9_keep_5 (fun m1 H locs h hH => ?_)
  rw [hQ]
  exact e_v hC hr hH h dX9_keep_8
theorem fw_X9_25 : ∀ j, j < 7 → gFl RX9 25 (kci j) 3 := by
  intro j hj
  rcases (show j = 0 ∨ j = 1 ∨ j = 2 ∨ j = 3 ∨ j = 4 ∨ j = 5 ∨ j = 6 by omega) with rfl | rfl | rfl | rfl | rfl | rfl | rfl
  · exact ⟨RX9, TX9, 6, "OnTiptoe$Walker", rfl, inW9, by decide, kw1080, Or.inl rfl⟩
  · exact ⟨RX1, TX1, 6, "OnTiptoe$Walker", rfl, inW1, by decide, kw1080, Or.inl rfl⟩
  · exact ⟨RX6, TX6, 6, "OnTiptoe$Walker", rfl, inW6, by decide, kw1080, Or.inl rfl⟩
  · exact ⟨RX5, TX5, 6, "OnTiptoe$Walker", rfl, inW5, by decide, kw1080, Or.inl rfl⟩
  · exact ⟨RX7, TX7, 6, "OnTiptoe$Walker", rfl, inW7, by decide, kw1080, Or.inl rfl⟩
  · exact ⟨RX0, TX0, 6, "OnTiptoe$Walker", rfl, inW0, by decide, kw1080, Or.inl rfl⟩
  · exact ⟨RX8, TX8, 8, "OnTiptoe$Walker", rfl, inW8, by decide, kw1080, Or.inl rfl⟩
theorem pw_X9_22 : ∀ j, j < 7 → gPl RX9 22 (kci j) 2 "I" := by
  intro j hj
  rcases (show j = 0 ∨ j = 1 ∨ j = 2 ∨ j = 3 ∨ j = 4 ∨ j = 5 ∨ j = 6 by omega) with rfl | rfl | rfl | rfl | rfl | rfl | rfl
  · exact ⟨RX9, TX9, 6, tyX9, "OnTiptoe$Walker", rfl, inW9, tyX9_ok, nmX9, by decide, kw232, Or.inl rfl, rfl, rfl⟩
  · exact ⟨RX1, TX1, 6, tyX1, "OnTiptoe$Walker", rfl, inW1, tyX1_ok, nmX1, by decide, kw232, Or.inl rfl, rfl, rfl⟩
  · exact ⟨RX6, TX6, 6, tyX6, "OnTiptoe$Walker", rfl, inW6, tyX6_ok, nmX6, by decide, kw232, Or.inl rfl, rfl, rfl⟩
  · exact ⟨RX5, TX5, 6, tyX5, "OnTiptoe$Walker", rfl, inW5, tyX5_ok, nmX5, by decide, kw232, Or.inl rfl, rfl, rfl⟩
  · exact ⟨RX7, TX7, 6, tyX7, "OnTiptoe$Walker", rfl, inW7, tyX7_ok, nmX7, by decide, kw232, Or.inl rfl, rfl, rfl⟩
  · exact ⟨RX0, TX0, 6, tyX0, "OnTiptoe$Walker", rfl, inW0, tyX0_ok, nmX0, by decide, kw232, Or.inl rfl, rfl, rfl⟩
  · exact ⟨RX8, TX8, 8, tyX8, "OnTiptoe$Walker", rfl, inW8, tyX8_ok, nmX8, by decide, kw232, Or.inl rfl, rfl, rfl⟩
def f_X9_goBack (L : List Nat) (mem : gMem) (w0 : Nat) : Option gMem := lt1 (gsI mem w0 2 (gI mem w0 3)) fun (m1 : gMem) => some m1
set_option maxRecDepth 100000 in
set_option maxHeartbeats 4000000 in
theorem c_X9_goBack {l : Launch} {E : State → Prop} {D : va_G} {cy : Nat → ClassId} {ad : Nat → Nat} {L : List Nat} {mem : gMem} {w0 : Nat} {memz : gMem} (hk : gOk ad L) (hL : ∀ o ∈ LX0, o ∈ L) (hE : gEok ad L E) (hw0 : wok L w0) (h : f_X9_goBack L mem w0 = some memz) : gMet l yX9_goBack cX9_goBack 1 none 0 0 E D cy shX ad L [.ref (ad w0)] mem memz none := by
  refine g_go (own := RX9) (by decide +kernel) rfl hE (Nat.le_of_ble_eq_true rfl) ?_
  intro p e s m args below meth c R Q hargs hR hQ hEs hC hr hX H locs ls hH hl
  have hF := gF_of hk
  have hl : lv_has ls 1 [(0, .ref (ad w0))] := hl
  refine lv_aload_n hC.x hC.b dX9_goBack_0 rfl (lv_at hl 0 rfl) ?_
  refine lv_aload_n hC.x hC.b dX9_goBack_1 rfl (lv_at hl 0 rfl) ?_
  refine r_geti hC hH (fw_X9_25 _ hw0.2.2.1) hw0.2.2.2.1 (sW0 hw0) rfl dX9_goBack_2 ?_
  refine r_puti hC hF hH (pw_X9_22 _ hw0.2.2.1) hw0.2.2.2.1 (sW0 hw0) rfl h dX9_goBack_5 (fun m1 H locs h hH => ?_)
  rw [hQ]
  exact e_v hC hr hH h dX9_goBack_8
theorem fw_X9_28 : ∀ j, j < 7 → gFl RX9 28 (kci j) 5 := by
  intro j hj
  rcases (show j = 0 ∨ j = 1 ∨ j = 2 ∨ j = 3 ∨ j = 4 ∨ j = 5 ∨ j = 6 by omega) with rfl | rfl | rfl | rfl | rfl | rfl | rfl
  · exact ⟨RX9, TX9, 6, "OnTiptoe$Walker", rfl, inW9, by decide, kw1136, Or.inl rfl⟩
  · exact ⟨RX1, TX1, 6, "OnTiptoe$Walker", rfl, inW1, by decide, kw1136, Or.inl rfl⟩
  · exact ⟨RX6, TX6, 6, "OnTiptoe$Walker", rfl, inW6, by decide, kw1136, Or.inl rfl⟩
  · exact ⟨RX5, TX5, 6, "OnTiptoe$Walker", rfl, inW5, by decide, kw1136, Or.inl rfl⟩
  · exact ⟨RX7, TX7, 6, "OnTiptoe$Walker", rfl, inW7, by decide, kw1136, Or.inl rfl⟩
  · exact ⟨RX0, TX0, 6, "OnTiptoe$Walker", rfl, inW0, by decide, kw1136, Or.inl rfl⟩
  · exact ⟨RX8, TX8, 8, "OnTiptoe$Walker", rfl, inW8, by decide, kw1136, Or.inl rfl⟩
theorem fw_X9_9 : ∀ j, j < 7 → gFl RX9 9 (kci j) 4 := by
  intro j hj
  rcases (show j = 0 ∨ j = 1 ∨ j = 2 ∨ j = 3 ∨ j = 4 ∨ j = 5 ∨ j = 6 by omega) with rfl | rfl | rfl | rfl | rfl | rfl | rfl
  · exact ⟨RX9, TX9, 6, "OnTiptoe$Walker", rfl, inW9, by decide, kw229, Or.inl rfl⟩
  · exact ⟨RX1, TX1, 6, "OnTiptoe$Walker", rfl, inW1, by decide, kw229, Or.inl rfl⟩
  · exact ⟨RX6, TX6, 6, "OnTiptoe$Walker", rfl, inW6, by decide, kw229, Or.inl rfl⟩
  · exact ⟨RX5, TX5, 6, "OnTiptoe$Walker", rfl, inW5, by decide, kw229, Or.inl rfl⟩
  · exact ⟨RX7, TX7, 6, "OnTiptoe$Walker", rfl, inW7, by decide, kw229, Or.inl rfl⟩
  · exact ⟨RX0, TX0, 6, "OnTiptoe$Walker", rfl, inW0, by decide, kw229, Or.inl rfl⟩
  · exact ⟨RX8, TX8, 8, "OnTiptoe$Walker", rfl, inW8, by decide, kw229, Or.inl rfl⟩
theorem pw_X9_28 : ∀ j, j < 7 → gPl RX9 28 (kci j) 5 "I" := by
  intro j hj
  rcases (show j = 0 ∨ j = 1 ∨ j = 2 ∨ j = 3 ∨ j = 4 ∨ j = 5 ∨ j = 6 by omega) with rfl | rfl | rfl | rfl | rfl | rfl | rfl
  · exact ⟨RX9, TX9, 6, tyX9, "OnTiptoe$Walker", rfl, inW9, tyX9_ok, nmX9, by decide, kw1136, Or.inl rfl, rfl, rfl⟩
  · exact ⟨RX1, TX1, 6, tyX1, "OnTiptoe$Walker", rfl, inW1, tyX1_ok, nmX1, by decide, kw1136, Or.inl rfl, rfl, rfl⟩
  · exact ⟨RX6, TX6, 6, tyX6, "OnTiptoe$Walker", rfl, inW6, tyX6_ok, nmX6, by decide, kw1136, Or.inl rfl, rfl, rfl⟩
  · exact ⟨RX5, TX5, 6, tyX5, "OnTiptoe$Walker", rfl, inW5, tyX5_ok, nmX5, by decide, kw1136, Or.inl rfl, rfl, rfl⟩
  · exact ⟨RX7, TX7, 6, tyX7, "OnTiptoe$Walker", rfl, inW7, tyX7_ok, nmX7, by decide, kw1136, Or.inl rfl, rfl, rfl⟩
  · exact ⟨RX0, TX0, 6, tyX0, "OnTiptoe$Walker", rfl, inW0, tyX0_ok, nmX0, by decide, kw1136, Or.inl rfl, rfl, rfl⟩
  · exact ⟨RX8, TX8, 8, tyX8, "OnTiptoe$Walker", rfl, inW8, tyX8_ok, nmX8, by decide, kw1136, Or.inl rfl, rfl, rfl⟩
def f_X9_begin (L : List Nat) (mem : gMem) (w0 : Nat) (p0 : Int32) : Option gMem := jn ((fun (m3 : gMem) => lt1 (gsI m3 w0 5 ((gI m3 w0 5) + (1 : Int32))) fun (m4 : gMem) => some m4) : gMem → Option gMem) fun j1 => if (gI mem w0 5) < 0 then ((j1 mem)) else if (20 : Int32) ≤ (gI mem w0 5) then ((j1 mem)) else if okI (gI mem w0 5) 20 then lt1 (gsI mem (w0 + 1) (ix (gI mem w0 5)) p0) fun (m2 : gMem) => (j1 m2) else none
set_option maxRecDepth 100000 in
set_option maxHeartbeats 4000000 in
theorem c_X9_begin {l : Launch} {E : State → Prop} {D : va_G} {cy : Nat → ClassId} {ad : Nat → Nat} {L : List Nat} {mem : gMem} {w0 : Nat} {p0 : Int32} {memz : gMem} (hk : gOk ad L) (hL : ∀ o ∈ LX0, o ∈ L) (hE : gEok ad L E) (hw0 : wok L w0) (h : f_X9_begin L mem w0 p0 = some memz) : gMet l yX9_begin cX9_begin 2 none 0 0 E D cy shX ad L [.ref (ad w0), .int p0] mem memz none := by
  refine g_go (own := RX9) (by decide +kernel) rfl hE (Nat.le_of_ble_eq_true rfl) ?_
  intro p e s m args below meth c R Q hargs hR hQ hEs hC hr hX H locs ls hH hl
  have hF := gF_of hk
  have hl : lv_has ls 2 [(0, .ref (ad w0)), (1, .int p0)] := hl
  refine lv_aload_n hC.x hC.b dX9_begin_0 rfl (lv_at hl 0 rfl) ?_
  refine r_geti hC hH (fw_X9_28 _ hw0.2.2.1) hw0.2.2.2.1 (sW0 hw0) rfl dX9_begin_1 ?_
  obtain ⟨j1, ej1, h⟩ := jn_e h
  have hj1 : ∀ (m3 : gMem) (H : Heap) (locs : List Loc) (ls : Array Slot), (j1 m3) = some memz → gH D cy shX ad L (gA ad L) s.heap m3 H locs → lv_has ls 2 [(0, .ref (ad w0))] → W p l e R s m args below meth c H locs 0 0 Q (F0 m 26 ls []) := by
    intro m3 H locs ls h hH hl
    have h := ap1 ej1 h
    refine lv_aload_n hC.x hC.b dX9_begin_26 rfl (lv_at hl 0 rfl) ?_
    refine lv_dup hC.x hC.b dX9_begin_27 rfl ?_
    refine r_geti hC hH (fw_X9_28 _ hw0.2.2.1) hw0.2.2.2.1 (sW0 hw0) rfl dX9_begin_28 ?_
    refine lv_iconst (v := 1) hC.x hC.b dX9_begin_31 rfl ?_
    refine lv_iadd hC.x hC.b dX9_begin_32 ?_
    refine r_puti hC hF hH (pw_X9_28 _ hw0.2.2.1) hw0.2.2.2.1 (sW0 hw0) rfl h dX9_begin_33 (fun m4 H locs h hH => ?_)
    rw [hQ]
    exact e_v hC hr hH h dX9_begin_36
  clear ej1
  refine b_if_lt (tgt := 26) hC dX9_begin_4 (by decide) h (fun h => ?_) (fun h => ?_)
  · exact hj1 mem H locs ls h hH (lv_sub hl [0] rfl)
  · refine lv_aload_n hC.x hC.b dX9_begin_7 rfl (lv_at hl 0 rfl) ?_
    refine r_geti hC hH (fw_X9_28 _ hw0.2.2.1) hw0.2.2.2.1 (sW0 hw0) rfl dX9_begin_8 ?_
    refine lv_bipush (v := 20) hC.x hC.b dX9_begin_11 rfl ?_
    refine b_ic_ge (tgt := 26) hC dX9_begin_13 (by decide) h (fun h => ?_) (fun h => ?_)
    · exact hj1 mem H locs ls h hH (lv_sub hl [0] rfl)
    · refine lv_aload_n hC.x hC.b dX9_begin_16 rfl (lv_at hl 0 rfl) ?_
      refine r_getc (z := (w0 + 1)) hC hH (fw_X9_9 _ hw0.2.2.1) hw0.2.2.2.1 (sW0 hw0) rfl dX9_begin_17 ?_
      refine lv_aload_n hC.x hC.b dX9_begin_20 rfl (lv_at hl 0 rfl) ?_
      refine r_geti hC hH (fw_X9_28 _ hw0.2.2.1) hw0.2.2.2.1 (sW0 hw0) rfl dX9_begin_21 ?_
      refine lv_iload_n hC.x hC.b dX9_begin_24 rfl (lv_at hl 1 rfl) ?_
      refine r_iast hC hF hH hw0.2.2.2.2.1 (sW1 hw0) h dX9_begin_25 (fun m2 H locs h hH => ?_)
      exact hj1 m2 H locs ls h hH (lv_sub hl [0] rfl)
theorem fl_X10_18_10 : gFl RX10 18 10 4 := ⟨RX10, TX10, 10, "OnTiptoe$Ways", rfl, inW10, by decide, kw63, Or.inl rfl⟩
def f_X10_leastAt (L : List Nat) (mem : gMem) (p0 : Int32) (p1 : Int32) : Option Int32 := lt1 ((p0 * (12 : Int32)) + p1) fun (x1 : Int32) => if x1 < 0 then (some (3 : Int32)) else if (372 : Int32) ≤ x1 then (some (3 : Int32)) else if okI x1 372 then some (gI mem 35 (ix x1)) else none
set_option maxRecDepth 100000 in
set_option maxHeartbeats 4000000 in
theorem c_X10_leastAt {l : Launch} {E : State → Prop} {D : va_G} {cy : Nat → ClassId} {ad : Nat → Nat} {L : List Nat} {mem : gMem} {p0 : Int32} {p1 : Int32} {rv : Int32} (hk : gOk ad L) (hL : ∀ o ∈ LX0, o ∈ L) (hE : gEok ad L E)  (h : f_X10_leastAt L mem p0 p1 = some rv) : gMet l yX10_leastAt cX10_leastAt 4 (some .int) 0 0 E D cy shX ad L [.ref (ad 32), .int p0, .int p1] mem mem (some (.int rv)) := by
  refine g_go (own := RX10) (by decide +kernel) rfl hE (Nat.le_of_ble_eq_true rfl) ?_
  intro p e s m args below meth c R Q hargs hR hQ hEs hC hr hX H locs ls hH hl
  have hF := gF_of hk
  have hl : lv_has ls 4 [(0, .ref (ad 32)), (1, .int p0), (2, .int p1)] := hl
  refine lv_iload_n hC.x hC.b dX10_leastAt_0 rfl (lv_at hl 1 rfl) ?_
  refine lv_bipush (v := 12) hC.x hC.b dX10_leastAt_1 rfl ?_
  refine lv_imul hC.x hC.b dX10_leastAt_3 ?_
  refine lv_iload_n hC.x hC.b dX10_leastAt_4 rfl (lv_at hl 2 rfl) ?_
  refine lv_iadd hC.x hC.b dX10_leastAt_5 ?_
  refine n_i h (fun x1 h => ?_)
  refine lv_istore_n (lv' := [(3, .int x1), (0, .ref (ad 32)), (1, .int p0), (2, .int p1)]) hC.x hC.b dX10_leastAt_6 rfl hl (by decide) rfl (fun ls hl => ?_)
  refine lv_iload_n hC.x hC.b dX10_leastAt_7 rfl (lv_at hl 0 rfl) ?_
  refine b_if_lt (tgt := 29) hC dX10_leastAt_8 (by decide) h (fun h => ?_) (fun h => ?_)
  · refine lv_iconst (v := 3) hC.x hC.b dX10_leastAt_29 rfl ?_
    rw [hQ]
    exact e_ir hC hr hH h dX10_leastAt_30
  · refine lv_iload_n hC.x hC.b dX10_leastAt_11 rfl (lv_at hl 0 rfl) ?_
    refine lv_aload_n hC.x hC.b dX10_leastAt_12 rfl (lv_at hl 1 rfl) ?_
    refine r_getc (z := 35) hC hH fl_X10_18_10 (hL _ mX32) sX32 rfl dX10_leastAt_13 ?_
    refine r_alen (t := 0) hC hH (hL _ mX35) sX35 (v := 372) rfl dX10_leastAt_16 ?_
    refine b_ic_ge (tgt := 29) hC dX10_leastAt_17 (by decide) h (fun h => ?_) (fun h => ?_)
    · refine lv_iconst (v := 3) hC.x hC.b dX10_leastAt_29 rfl ?_
      rw [hQ]
      exact e_ir hC hr hH h dX10_leastAt_30
    · refine lv_aload_n hC.x hC.b dX10_leastAt_20 rfl (lv_at hl 1 rfl) ?_
      refine r_getc (z := 35) hC hH fl_X10_18_10 (hL _ mX32) sX32 rfl dX10_leastAt_21 ?_
      refine lv_iload_n hC.x hC.b dX10_leastAt_24 rfl (lv_at hl 0 rfl) ?_
      refine r_iald hC hH (hL _ mX35) sX35 h dX10_leastAt_25 (fun h => ?_)
      refine lv_goto (tgt := 30) hC.x hC.b dX10_leastAt_26 (by decide) ?_
      rw [hQ]
      exact e_ir hC hr hH h dX10_leastAt_30
def f_X10_lower (L : List Nat) (mem : gMem) (p0 : Int32) (p1 : Int32) (p2 : Int32) : Option gMem := lt1 ((p0 * (12 : Int32)) + p1) fun (x1 : Int32) => if x1 < 0 then (some mem) else if (372 : Int32) ≤ x1 then (some mem) else if okI x1 372 then if (gI mem 35 (ix x1)) ≤ p2 then (some mem) else if okI x1 372 then lt1 (gsI mem 35 (ix x1) p2) fun (m2 : gMem) => some m2 else none else none
set_option maxRecDepth 100000 in
set_option maxHeartbeats 4000000 in
theorem c_X10_lower {l : Launch} {E : State → Prop} {D : va_G} {cy : Nat → ClassId} {ad : Nat → Nat} {L : List Nat} {mem : gMem} {p0 : Int32} {p1 : Int32} {p2 : Int32} {memz : gMem} (hk : gOk ad L) (hL : ∀ o ∈ LX0, o ∈ L) (hE : gEok ad L E)  (h : f_X10_lower L mem p0 p1 p2 = some memz) : gMet l yX10_lower cX10_lower 5 none 0 0 E D cy shX ad L [.ref (ad 32), .int p0, .int p1, .int p2] mem memz none := by
  refine g_go (own := RX10) (by decide +kernel) rfl hE (Nat.le_of_ble_eq_true rfl) ?_
  intro p e s m args below meth c R Q hargs hR hQ hEs hC hr hX H locs ls hH hl
  have hF := gF_of hk
  have hl : lv_has ls 5 [(0, .ref (ad 32)), (1, .int p0), (2, .int p1), (3, .int p2)] := hl
  refine lv_iload_n hC.x hC.b dX10_lower_0 rfl (lv_at hl 1 rfl) ?_
  refine lv_bipush (v := 12) hC.x hC.b dX10_lower_1 rfl ?_
  refine lv_imul hC.x hC.b dX10_lower_3 ?_
  refine lv_iload_n hC.x hC.b dX10_lower_4 rfl (lv_at hl 2 rfl) ?_
  refine lv_iadd hC.x hC.b dX10_lower_5 ?_
  refine n_i h (fun x1 h => ?_)
  refine lv_istore (lv' := [(4, .int x1), (0, .ref (ad 32)), (1, .int p0), (2, .int p1), (3, .int p2)]) hC.x hC.b dX10_lower_6 hl (by decide) rfl (fun ls hl => ?_)
  refine lv_iload hC.x hC.b dX10_lower_8 (lv_at hl 0 rfl) ?_
  refine b_if_lt (tgt := 42) hC dX10_lower_10 (by decide) h (fun h => ?_) (fun h => ?_)
  · rw [hQ]
    exact e_v hC hr hH h dX10_lower_42
  · refine lv_iload hC.x hC.b dX10_lower_13 (lv_at hl 0 rfl) ?_
    refine lv_aload_n hC.x hC.b dX10_lower_15 rfl (lv_at hl 1 rfl) ?_
    refine r_getc (z := 35) hC hH fl_X10_18_10 (hL _ mX32) sX32 rfl dX10_lower_16 ?_
    refine r_alen (t := 0) hC hH (hL _ mX35) sX35 (v := 372) rfl dX10_lower_19 ?_
    refine b_ic_ge (tgt := 42) hC dX10_lower_20 (by decide) h (fun h => ?_) (fun h => ?_)
    · rw [hQ]
      exact e_v hC hr hH h dX10_lower_42
    · refine lv_iload_n hC.x hC.b dX10_lower_23 rfl (lv_at hl 4 rfl) ?_
      refine lv_aload_n hC.x hC.b dX10_lower_24 rfl (lv_at hl 1 rfl) ?_
      refine r_getc (z := 35) hC hH fl_X10_18_10 (hL _ mX32) sX32 rfl dX10_lower_25 ?_
      refine lv_iload hC.x hC.b dX10_lower_28 (lv_at hl 0 rfl) ?_
      refine r_iald hC hH (hL _ mX35) sX35 h dX10_lower_30 (fun h => ?_)
      refine b_ic_ge (tgt := 42) hC dX10_lower_31 (by decide) h (fun h => ?_) (fun h => ?_)
      · rw [hQ]
        exact e_v hC hr hH h dX10_lower_42
      · refine lv_aload_n hC.x hC.b dX10_lower_34 rfl (lv_at hl 1 rfl) ?_
        refine r_getc (z := 35) hC hH fl_X10_18_10 (hL _ mX32) sX32 rfl dX10_lower_35 ?_
        refine lv_iload hC.x hC.b dX10_lower_38 (lv_at hl 0 rfl) ?_
        refine lv_iload_n hC.x hC.b dX10_lower_40 rfl (lv_at hl 4 rfl) ?_
        refine r_iast hC hF hH (hL _ mX35) sX35 h dX10_lower_41 (fun m2 H locs h hH => ?_)
        rw [hQ]
        exact e_v hC hr hH h dX10_lower_42
theorem a_J3_checkIndex_8e157 : noMH yJ3_checkIndex_8e157.cls ∧ arity yJ3_checkIndex_8e157.desc 3 := by decide +kernel
def f_J0_checkIndex_df160 (p0 : Int32) (p1 : Int32) : Option Unit := bd (f_J3_checkIndex_8e157 p0 p1) fun (x2 : Int32) => some ()
set_option maxRecDepth 100000 in
set_option maxHeartbeats 4000000 in
theorem c_J0_checkIndex_df160 {l : Launch} {E : State → Prop} {D : va_G} {cy : Nat → ClassId} {ad : Nat → Nat} {L : List Nat} {adK adV : Nat → Nat} {mem : gMem} {p0 : Int32} {p1 : Int32} (hk : gOk ad L) (hL : ∀ o ∈ LX0, o ∈ L) (hE : gEok ad L E) (hSs : ∀ s : State, E s → gS (gA ad L) adK adV s) (h : f_J0_checkIndex_df160 p0 p1 = some ()) : gMet l yJ0_checkIndex_df160 cJ0_checkIndex_df160 2 none 1 22 E D cy shX ad L [.int p0, .int p1] mem mem none := by
  refine g_go (own := RJ0) (by decide +kernel) rfl hE (Nat.le_of_ble_eq_true rfl) ?_
  intro p e s m args below meth c R Q hargs hR hQ hEs hC hr hX H locs ls hH hl
  have hF := gF_of hk
  have hl : lv_has ls 2 [(0, .int p0), (1, .int p1)] := hl
  refine lv_iload_n hC.x hC.b dJ0_checkIndex_df160_0 rfl (lv_at hl 0 rfl) ?_
  refine lv_iload_n hC.x hC.b dJ0_checkIndex_df160_1 rfl (lv_at hl 1 rfl) ?_
  refine s_sio hC (hSs _ hEs) hH kw504 dJ0_checkIndex_df160_2 (fun z1 => ?_)
  obtain ⟨x2, hf2, h⟩ := bd_e h
  refine c_S1 (As := [.int p0, .int p1, va_rf z1]) (rest := []) hC hX hE.2.1 hF hH (c_J3_checkIndex_8e157 (l := l) hk hL hE hf2) kw505 kw506 kw507 kw508 a_J3_checkIndex_8e157.1 a_J3_checkIndex_8e157.2 rfl hl.1 (rmk hR (by decide) (by decide)) (Nat.le_of_ble_eq_true rfl) dJ0_checkIndex_df160_5 (fun H locs hH => ?_)
  refine lv_pop hC.x hC.b dJ0_checkIndex_df160_8 rfl ?_
  rw [hQ]
  exact e_vr hC hr hH dJ0_checkIndex_df160_9
theorem a_J0_coder_7d493 : noMH yJ0_coder_7d493.cls ∧ arity yJ0_coder_7d493.desc 0 := by decide +kernel
def f_J0_length_8abf5 (i0 : Nat) : Option Int32 := bd (f_J0_coder_7d493 i0) fun (x1 : Int32) => some ((nI (lenJ.getD i0 0)) >>> (x1 &&& 31))
set_option maxRecDepth 100000 in
set_option maxHeartbeats 4000000 in
theorem c_J0_length_8abf5 {l : Launch} {E : State → Prop} {D : va_G} {cy : Nat → ClassId} {ad : Nat → Nat} {L : List Nat} {adK adV : Nat → Nat} {mem : gMem} {i0 : Nat} {rv : Int32} (hk : gOk ad L) (hL : ∀ o ∈ LX0, o ∈ L) (hE : gEok ad L E) (hSs : ∀ s : State, E s → gS (gA ad L) adK adV s) (hi0 : i0 < 5) (h : f_J0_length_8abf5 i0 = some rv) : gMet l yJ0_length_8abf5 cJ0_length_8abf5 1 (some .int) 1 20 E D cy shX ad L [.ref (adK i0)] mem mem (some (.int rv)) := by
  refine g_go (own := RJ0) (by decide +kernel) rfl hE (Nat.le_of_ble_eq_true rfl) ?_
  intro p e s m args below meth c R Q hargs hR hQ hEs hC hr hX H locs ls hH hl
  have hF := gF_of hk
  have hl : lv_has ls 1 [(0, .ref (adK i0))] := hl
  refine lv_aload_n hC.x hC.b dJ0_length_8abf5_0 rfl (lv_at hl 0 rfl) ?_
  refine s_val hC (hSs _ hEs) hH hi0 kw482 dJ0_length_8abf5_1 ?_
  refine s_alen hC (hSs _ hEs) hH hi0 dJ0_length_8abf5_4 ?_
  refine lv_aload_n hC.x hC.b dJ0_length_8abf5_5 rfl (lv_at hl 0 rfl) ?_
  obtain ⟨x1, hf1, h⟩ := bd_e h
  refine c_VR1 (As := []) (rest := [.int (nI (lenJ.getD i0 0))]) (i := i0) hC hX hE.2.1 hF (hSs _ hEs) hi0 hH (c_J0_coder_7d493 (l := l) hk hL hE hSs hi0 hf1) kw483 kw484 kw485 kw480 kw486 a_J0_coder_7d493.1 a_J0_coder_7d493.2 rfl hl.1 (rmk hR (by decide) (by decide)) (Nat.le_of_ble_eq_true rfl) dJ0_length_8abf5_6 (fun H locs hH => ?_)
  refine lv_ishr hC.x hC.b dJ0_length_8abf5_9 ?_
  rw [hQ]
  exact e_ir hC hr hH h dJ0_length_8abf5_10
theorem a_J1_canEncode_9a6ad : noMH yJ1_canEncode_9a6ad.cls ∧ arity yJ1_canEncode_9a6ad.desc 1 := by decide +kernel
theorem a_J1_indexOfChar_4cfef : noMH yJ1_indexOfChar_4cfef.cls ∧ arity yJ1_indexOfChar_4cfef.desc 4 := by decide +kernel
def f_J1_indexOf_4cfef (i0 : Nat) (p1 : Int32) (p2 : Int32) (p3 : Int32) : Option Int32 := bd (f_J1_canEncode_9a6ad p1) fun (x1 : Int32) => if x1 = 0 then (some (-1 : Int32)) else lt1 (if p2 < (0 : Int32) then (0 : Int32) else p2) fun (x2 : Int32) => lt1 (if (nI (lenJ.getD i0 0)) < p3 then (nI (lenJ.getD i0 0)) else p3) fun (x3 : Int32) => if x2 < x3 then (bd (f_J1_indexOfChar_4cfef i0 p1 x2 x3) fun (x4 : Int32) => some x4) else some (-1 : Int32)
set_option maxRecDepth 100000 in
set_option maxHeartbeats 4000000 in
theorem c_J1_indexOf_4cfef {l : Launch} {E : State → Prop} {D : va_G} {cy : Nat → ClassId} {ad : Nat → Nat} {L : List Nat} {adK adV : Nat → Nat} {mem : gMem} {i0 : Nat} {p1 : Int32} {p2 : Int32} {p3 : Int32} {rv : Int32} (hk : gOk ad L) (hL : ∀ o ∈ LX0, o ∈ L) (hE : gEok ad L E) (hSs : ∀ s : State, E s → gS (gA ad L) adK adV s) (hi0 : i0 < 5) (h : f_J1_indexOf_4cfef i0 p1 p2 p3 = some rv) : gMet l yJ1_indexOf_4cfef cJ1_indexOf_4cfef 4 (some .int) 1 25 E D cy shX ad L [.ref (adV i0), .int p1, .int p2, .int p3] mem mem (some (.int rv)) := by
  refine g_go (own := RJ1) (by decide +kernel) rfl hE (Nat.le_of_ble_eq_true rfl) ?_
  intro p e s m args below meth c R Q hargs hR hQ hEs hC hr hX H locs ls hH hl
  have hF := gF_of hk
  have hl : lv_has ls 4 [(0, .ref (adV i0)), (1, .int p1), (2, .int p2), (3, .int p3)] := hl
  refine lv_iload_n hC.x hC.b dJ1_indexOf_4cfef_0 rfl (lv_at hl 1 rfl) ?_
  obtain ⟨x1, hf1, h⟩ := bd_e h
  refine c_S1 (As := [.int p1]) (rest := []) hC hX hE.2.1 hF hH (c_J1_canEncode_9a6ad (l := l) hk hL hE hf1) kw581 kw582 kw499 kw583 a_J1_canEncode_9a6ad.1 a_J1_canEncode_9a6ad.2 rfl hl.1 (rmk hR (by decide) (by decide)) (Nat.le_of_ble_eq_true rfl) dJ1_indexOf_4cfef_1 (fun H locs hH => ?_)
  refine b_if_ne (tgt := 9) hC dJ1_indexOf_4cfef_4 (by decide) h (fun h => ?_) (fun h => ?_)
  · refine lv_iload_n hC.x hC.b dJ1_indexOf_4cfef_9 rfl (lv_at hl 2 rfl) ?_
    refine lv_iconst (v := 0) hC.x hC.b dJ1_indexOf_4cfef_10 rfl ?_
    refine m_max hC hl.1 kw577 kw309 kw310 kw311 (rmM hR (by decide) (Nat.le_of_ble_eq_true rfl)) dJ1_indexOf_4cfef_11 ?_
    refine n_i h (fun x2 h => ?_)
    refine lv_istore_n (lv' := [(2, .int x2), (0, .ref (adV i0)), (1, .int p1), (3, .int p3)]) hC.x hC.b dJ1_indexOf_4cfef_14 rfl hl (by decide) rfl (fun ls hl => ?_)
    refine lv_iload_n hC.x hC.b dJ1_indexOf_4cfef_15 rfl (lv_at hl 3 rfl) ?_
    refine lv_aload_n hC.x hC.b dJ1_indexOf_4cfef_16 rfl (lv_at hl 1 rfl) ?_
    refine s_alen hC (hSs _ hEs) hH hi0 dJ1_indexOf_4cfef_17 ?_
    refine m_min hC hl.1 kw578 kw579 kw310 kw580 (rmM hR (by decide) (Nat.le_of_ble_eq_true rfl)) dJ1_indexOf_4cfef_18 ?_
    refine n_i h (fun x3 h => ?_)
    refine lv_istore_n (lv' := [(3, .int x3), (2, .int x2), (0, .ref (adV i0)), (1, .int p1)]) hC.x hC.b dJ1_indexOf_4cfef_21 rfl hl (by decide) rfl (fun ls hl => ?_)
    refine lv_iload_n hC.x hC.b dJ1_indexOf_4cfef_22 rfl (lv_at hl 1 rfl) ?_
    refine lv_iload_n hC.x hC.b dJ1_indexOf_4cfef_23 rfl (lv_at hl 0 rfl) ?_
    refine b_ic_lt (tgt := 29) hC dJ1_indexOf_4cfef_24 (by decide) h (fun h => ?_) (fun h => ?_)
    · refine lv_aload_n hC.x hC.b dJ1_indexOf_4cfef_29 rfl (lv_at hl 2 rfl) ?_
      refine lv_iload_n hC.x hC.b dJ1_indexOf_4cfef_30 rfl (lv_at hl 3 rfl) ?_
      refine lv_iload_n hC.x hC.b dJ1_indexOf_4cfef_31 rfl (lv_at hl 1 rfl) ?_
      refine lv_iload_n hC.x hC.b dJ1_indexOf_4cfef_32 rfl (lv_at hl 0 rfl) ?_
      obtain ⟨x4, hf4, h⟩ := bd_e h
      refine c_S1 (As := [.ref (adV i0), .int p1, .int x2, .int x3]) (rest := []) hC hX hE.2.1 hF hH (c_J1_indexOfChar_4cfef (l := l) hk hL hE hSs hi0 hf4) kw584 kw585 kw499 kw586 a_J1_indexOfChar_4cfef.1 a_J1_indexOfChar_4cfef.2 rfl hl.1 (rmk hR (by decide) (by decide)) (Nat.le_of_ble_eq_true rfl) dJ1_indexOf_4cfef_33 (fun H locs hH => ?_)
      rw [hQ]
      exact e_ir hC hr hH h dJ1_indexOf_4cfef_36
    · refine lv_iconst (v := -1) hC.x hC.b dJ1_indexOf_4cfef_27 rfl ?_
      rw [hQ]
      exact e_ir hC hr hH h dJ1_indexOf_4cfef_28
  · refine lv_iconst (v := -1) hC.x hC.b dJ1_indexOf_4cfef_7 rfl ?_
    rw [hQ]
    exact e_ir hC hr hH h dJ1_indexOf_4cfef_8
theorem a_X11_isBoard : noMH yX11_isBoard.cls ∧ arity yX11_isBoard.desc 1 := by decide +kernel
theorem fl_X11_68_2 : gFl RX11 68 2 0 := ⟨RX2, TX2, 17, "OnTiptoe$House", rfl, inW2, by decide, kw155, Or.inl rfl⟩
def f_X11_creak (L : List Nat) (mem : gMem) (p0 : Int32) (p1 : Int32) : Option (Int32 × gMem) := bd (f_X11_isBoard p0) fun (x1 : Int32) => if x1 = 0 then (some ((-1 : Int32), mem)) else if p1 < 0 then (some ((-2 : Int32), mem)) else if p1 ≤ (9 : Int32) then (if okI p0 12 then lt1 (gI mem 11 (ix p0)) fun (x2 : Int32) => if okI p0 12 then lt1 (gsI mem 11 (ix p0) p1) fun (m3 : gMem) => some (x2, m3) else none else none) else some ((-2 : Int32), mem)
set_option maxRecDepth 100000 in
set_option maxHeartbeats 4000000 in
theorem c_X11_creak {l : Launch} {E : State → Prop} {D : va_G} {cy : Nat → ClassId} {ad : Nat → Nat} {L : List Nat} {mem : gMem} {p0 : Int32} {p1 : Int32} {rv : Int32} {memz : gMem} (hk : gOk ad L) (hL : ∀ o ∈ LX0, o ∈ L) (hE : gEok ad L E)  (h : f_X11_creak L mem p0 p1 = some (rv, memz)) : gMet l yX11_creak cX11_creak 4 (some .int) 1 20 E D cy shX ad L [.ref (ad 0), .int p0, .int p1] mem memz (some (.int rv)) := by
  refine g_go (own := RX11) (by decide +kernel) rfl hE (Nat.le_of_ble_eq_true rfl) ?_
  intro p e s m args below meth c R Q hargs hR hQ hEs hC hr hX H locs ls hH hl
  have hF := gF_of hk
  have hl : lv_has ls 4 [(0, .ref (ad 0)), (1, .int p0), (2, .int p1)] := hl
  refine lv_iload_n hC.x hC.b dX11_creak_0 rfl (lv_at hl 1 rfl) ?_
  obtain ⟨x1, hf1, h⟩ := bd_e h
  refine c_S1 (As := [.int p0]) (rest := []) hC hX hE.2.1 hF hH (c_X11_isBoard (l := l) hk hL hE hf1) kw156 kw157 kw2 kw158 a_X11_isBoard.1 a_X11_isBoard.2 rfl hl.1 (rmk hR (by decide) (by decide)) (Nat.le_of_ble_eq_true rfl) dX11_creak_1 (fun H locs hH => ?_)
  refine b_if_ne (tgt := 9) hC dX11_creak_4 (by decide) h (fun h => ?_) (fun h => ?_)
  · refine lv_iload_n hC.x hC.b dX11_creak_9 rfl (lv_at hl 2 rfl) ?_
    refine b_if_lt (tgt := 19) hC dX11_creak_10 (by decide) h (fun h => ?_) (fun h => ?_)
    · refine lv_bipush (v := -2) hC.x hC.b dX11_creak_19 rfl ?_
      rw [hQ]
      exact e_i hC hr hH h dX11_creak_21
    · refine lv_iload_n hC.x hC.b dX11_creak_13 rfl (lv_at hl 2 rfl) ?_
      refine lv_bipush (v := 9) hC.x hC.b dX11_creak_14 rfl ?_
      refine b_ic_le (tgt := 22) hC dX11_creak_16 (by decide) h (fun h => ?_) (fun h => ?_)
      · refine lv_aload_n hC.x hC.b dX11_creak_22 rfl (lv_at hl 0 rfl) ?_
        refine r_getc (z := 10) hC hH fl_X11_12_11 (hL _ mX0) sX0 rfl dX11_creak_23 ?_
        refine r_getc (z := 11) hC hH fl_X11_68_2 (hL _ mX10) sX10 rfl dX11_creak_26 ?_
        refine lv_iload_n hC.x hC.b dX11_creak_29 rfl (lv_at hl 1 rfl) ?_
        refine r_iald hC hH (hL _ mX11) sX11 h dX11_creak_30 (fun h => ?_)
        refine n_i h (fun x2 h => ?_)
        refine lv_istore_n (lv' := [(3, .int x2), (0, .ref (ad 0)), (1, .int p0), (2, .int p1)]) hC.x hC.b dX11_creak_31 rfl hl (by decide) rfl (fun ls hl => ?_)
        refine lv_aload_n hC.x hC.b dX11_creak_32 rfl (lv_at hl 1 rfl) ?_
        refine r_getc (z := 10) hC hH fl_X11_12_11 (hL _ mX0) sX0 rfl dX11_creak_33 ?_
        refine r_getc (z := 11) hC hH fl_X11_68_2 (hL _ mX10) sX10 rfl dX11_creak_36 ?_
        refine lv_iload_n hC.x hC.b dX11_creak_39 rfl (lv_at hl 2 rfl) ?_
        refine lv_iload_n hC.x hC.b dX11_creak_40 rfl (lv_at hl 3 rfl) ?_
        refine r_iast hC hF hH (hL _ mX11) sX11 h dX11_creak_41 (fun m3 H locs h hH => ?_)
        refine lv_iload_n hC.x hC.b dX11_creak_42 rfl (lv_at hl 0 rfl) ?_
        rw [hQ]
        exact e_i hC hr hH h dX11_creak_43
      · refine lv_bipush (v := -2) hC.x hC.b dX11_creak_19 rfl ?_
        rw [hQ]
        exact e_i hC hr hH h dX11_creak_21
  · refine lv_iconst (v := -1) hC.x hC.b dX11_creak_7 rfl ?_
    rw [hQ]
    exact e_i hC hr hH h dX11_creak_8
theorem a_X2_toyOn : noMH yX2_toyOn.cls ∧ arity yX2_toyOn.desc 1 := by decide +kernel
theorem fl_X11_75_2 : gFl RX11 75 2 1 := ⟨RX2, TX2, 17, "OnTiptoe$House", rfl, inW2, by decide, kw175, Or.inl rfl⟩
theorem pl_X11_75_2 : gPl RX11 75 2 1 "I" := ⟨RX2, TX2, 17, tyX2, "OnTiptoe$House", rfl, inW2, tyX2_ok, nmX2, by decide, kw175, Or.inl rfl, rfl, rfl⟩
def f_X11_toy (L : List Nat) (mem : gMem) (p0 : Int32) (p1 : Int32) : Option (Int32 × gMem) := bd (f_X11_isBoard p0) fun (x1 : Int32) => if x1 = 0 then (some ((-1 : Int32), mem)) else bd (f_X2_toyOn L mem p0) fun (x2 : Int32) => lt1 ((1 : Int32) <<< (p0 &&& 31)) fun (x3 : Int32) => jn ((fun (x5 : Int32) => lt1 (gsI mem 10 1 x5) fun (m6 : gMem) => some (x2, m6)) : Int32 → Option (Int32 × gMem)) fun j4 => if p1 = 0 then ((j4 ((gI mem 10 1) &&& (x3 ^^^ (-1 : Int32))))) else (j4 ((gI mem 10 1) ||| x3))
set_option maxRecDepth 100000 in
set_option maxHeartbeats 4000000 in
theorem c_X11_toy {l : Launch} {E : State → Prop} {D : va_G} {cy : Nat → ClassId} {ad : Nat → Nat} {L : List Nat} {mem : gMem} {p0 : Int32} {p1 : Int32} {rv : Int32} {memz : gMem} (hk : gOk ad L) (hL : ∀ o ∈ LX0, o ∈ L) (hE : gEok ad L E)  (h : f_X11_toy L mem p0 p1 = some (rv, memz)) : gMet l yX11_toy cX11_toy 5 (some .int) 1 21 E D cy shX ad L [.ref (ad 0), .int p0, .int p1] mem memz (some (.int rv)) := by
  refine g_go (own := RX11) (by decide +kernel) rfl hE (Nat.le_of_ble_eq_true rfl) ?_
  intro p e s m args below meth c R Q hargs hR hQ hEs hC hr hX H locs ls hH hl
  have hF := gF_of hk
  have hl : lv_has ls 5 [(0, .ref (ad 0)), (1, .int p0), (2, .int p1)] := hl
  refine lv_iload_n hC.x hC.b dX11_toy_0 rfl (lv_at hl 1 rfl) ?_
  obtain ⟨x1, hf1, h⟩ := bd_e h
  refine c_S1 (As := [.int p0]) (rest := []) hC hX hE.2.1 hF hH (c_X11_isBoard (l := l) hk hL hE hf1) kw156 kw157 kw2 kw158 a_X11_isBoard.1 a_X11_isBoard.2 rfl hl.1 (rmk hR (by decide) (by decide)) (Nat.le_of_ble_eq_true rfl) dX11_toy_1 (fun H locs hH => ?_)
  refine b_if_ne (tgt := 9) hC dX11_toy_4 (by decide) h (fun h => ?_) (fun h => ?_)
  · refine lv_aload_n hC.x hC.b dX11_toy_9 rfl (lv_at hl 0 rfl) ?_
    refine r_getc (z := 10) hC hH fl_X11_12_11 (hL _ mX0) sX0 rfl dX11_toy_10 ?_
    refine lv_iload_n hC.x hC.b dX11_toy_13 rfl (lv_at hl 1 rfl) ?_
    obtain ⟨x2, hf2, h⟩ := bd_e h
    refine c_V1 (As := [.int p0]) (rest := []) (o := 10) (q := (RX2, TX2, 17)) hC hX hE.2.1 hF hH (c_X2_toyOn (l := l) hk hL hE hf2) kw176 kw177 kw178 kw15 kw179 a_X2_toyOn.1 a_X2_toyOn.2 (hL _ mX10) sX10 rfl rfl hl.1 (rmk hR (by decide) (by decide)) (Nat.le_of_ble_eq_true rfl) dX11_toy_14 (fun H locs hH => ?_)
    refine lv_istore_n (lv' := [(3, .int x2), (0, .ref (ad 0)), (1, .int p0), (2, .int p1)]) hC.x hC.b dX11_toy_17 rfl hl (by decide) rfl (fun ls hl => ?_)
    refine lv_iconst (v := 1) hC.x hC.b dX11_toy_18 rfl ?_
    refine lv_iload_n hC.x hC.b dX11_toy_19 rfl (lv_at hl 2 rfl) ?_
    refine lv_ishl hC.x hC.b dX11_toy_20 ?_
    refine n_i h (fun x3 h => ?_)
    refine lv_istore (lv' := [(4, .int x3), (3, .int x2), (0, .ref (ad 0)), (1, .int p0), (2, .int p1)]) hC.x hC.b dX11_toy_21 hl (by decide) rfl (fun ls hl => ?_)
    refine lv_aload_n hC.x hC.b dX11_toy_23 rfl (lv_at hl 2 rfl) ?_
    refine r_getc (z := 10) hC hH fl_X11_12_11 (hL _ mX0) sX0 rfl dX11_toy_24 ?_
    refine lv_iload_n hC.x hC.b dX11_toy_27 rfl (lv_at hl 4 rfl) ?_
    obtain ⟨j4, ej4, h⟩ := jn_e h
    have hj4 : ∀ (x5 : Int32) (H : Heap) (locs : List Loc) (ls : Array Slot), (j4 x5) = some (rv, memz) → gH D cy shX ad L (gA ad L) s.heap mem H locs → lv_has ls 5 [(3, .int x2)] → W p l e R s m args below meth c H locs 0 0 Q (F0 m 56 ls [.int x5, .ref (ad 10)]) := by
      intro x5 H locs ls h hH hl
      have h := ap1 ej4 h
      refine r_puti hC hF hH pl_X11_75_2 (hL _ mX10) sX10 rfl h dX11_toy_56 (fun m6 H locs h hH => ?_)
      refine lv_iload_n hC.x hC.b dX11_toy_59 rfl (lv_at hl 0 rfl) ?_
      rw [hQ]
      exact e_i hC hr hH h dX11_toy_60
    clear ej4
    refine b_if_eq (tgt := 44) hC dX11_toy_28 (by decide) h (fun h => ?_) (fun h => ?_)
    · refine lv_aload_n hC.x hC.b dX11_toy_44 rfl (lv_at hl 2 rfl) ?_
      refine r_getc (z := 10) hC hH fl_X11_12_11 (hL _ mX0) sX0 rfl dX11_toy_45 ?_
      refine r_geti hC hH fl_X11_75_2 (hL _ mX10) sX10 rfl dX11_toy_48 ?_
      refine lv_iload hC.x hC.b dX11_toy_51 (lv_at hl 0 rfl) ?_
      refine lv_iconst (v := -1) hC.x hC.b dX11_toy_53 rfl ?_
      refine lv_ixor hC.x hC.b dX11_toy_54 ?_
      refine lv_iand hC.x hC.b dX11_toy_55 ?_
      exact hj4 ((gI mem 10 1) &&& (x3 ^^^ (-1 : Int32))) H locs ls h hH (lv_sub hl [1] rfl)
    · refine lv_aload_n hC.x hC.b dX11_toy_31 rfl (lv_at hl 2 rfl) ?_
      refine r_getc (z := 10) hC hH fl_X11_12_11 (hL _ mX0) sX0 rfl dX11_toy_32 ?_
      refine r_geti hC hH fl_X11_75_2 (hL _ mX10) sX10 rfl dX11_toy_35 ?_
      refine lv_iload hC.x hC.b dX11_toy_38 (lv_at hl 0 rfl) ?_
      refine lv_ior hC.x hC.b dX11_toy_40 ?_
      refine lv_goto (tgt := 56) hC.x hC.b dX11_toy_41 (by decide) ?_
      exact hj4 ((gI mem 10 1) ||| x3) H locs ls h hH (lv_sub hl [1] rfl)
  · refine lv_iconst (v := -1) hC.x hC.b dX11_toy_7 rfl ?_
    rw [hQ]
    exact e_i hC hr hH h dX11_toy_8
theorem fl_X11_79_2 : gFl RX11 79 2 2 := ⟨RX2, TX2, 17, "OnTiptoe$House", rfl, inW2, by decide, kw189, Or.inl rfl⟩
theorem pl_X11_79_2 : gPl RX11 79 2 2 "I" := ⟨RX2, TX2, 17, tyX2, "OnTiptoe$House", rfl, inW2, tyX2_ok, nmX2, by decide, kw189, Or.inl rfl, rfl, rfl⟩
def f_X11_door (L : List Nat) (mem : gMem) (p0 : Int32) : Option (Int32 × gMem) := bd (f_X11_isBoard p0) fun (x1 : Int32) => if x1 = 0 then (some ((-1 : Int32), mem)) else lt1 (gI mem 10 2) fun (x2 : Int32) => lt1 (gsI mem 10 2 p0) fun (m3 : gMem) => some (x2, m3)
set_option maxRecDepth 100000 in
set_option maxHeartbeats 4000000 in
theorem c_X11_door {l : Launch} {E : State → Prop} {D : va_G} {cy : Nat → ClassId} {ad : Nat → Nat} {L : List Nat} {mem : gMem} {p0 : Int32} {rv : Int32} {memz : gMem} (hk : gOk ad L) (hL : ∀ o ∈ LX0, o ∈ L) (hE : gEok ad L E)  (h : f_X11_door L mem p0 = some (rv, memz)) : gMet l yX11_door cX11_door 3 (some .int) 1 20 E D cy shX ad L [.ref (ad 0), .int p0] mem memz (some (.int rv)) := by
  refine g_go (own := RX11) (by decide +kernel) rfl hE (Nat.le_of_ble_eq_true rfl) ?_
  intro p e s m args below meth c R Q hargs hR hQ hEs hC hr hX H locs ls hH hl
  have hF := gF_of hk
  have hl : lv_has ls 3 [(0, .ref (ad 0)), (1, .int p0)] := hl
  refine lv_iload_n hC.x hC.b dX11_door_0 rfl (lv_at hl 1 rfl) ?_
  obtain ⟨x1, hf1, h⟩ := bd_e h
  refine c_S1 (As := [.int p0]) (rest := []) hC hX hE.2.1 hF hH (c_X11_isBoard (l := l) hk hL hE hf1) kw156 kw157 kw2 kw158 a_X11_isBoard.1 a_X11_isBoard.2 rfl hl.1 (rmk hR (by decide) (by decide)) (Nat.le_of_ble_eq_true rfl) dX11_door_1 (fun H locs hH => ?_)
  refine b_if_ne (tgt := 9) hC dX11_door_4 (by decide) h (fun h => ?_) (fun h => ?_)
  · refine lv_aload_n hC.x hC.b dX11_door_9 rfl (lv_at hl 0 rfl) ?_
    refine r_getc (z := 10) hC hH fl_X11_12_11 (hL _ mX0) sX0 rfl dX11_door_10 ?_
    refine r_geti hC hH fl_X11_79_2 (hL _ mX10) sX10 rfl dX11_door_13 ?_
    refine n_i h (fun x2 h => ?_)
    refine lv_istore_n (lv' := [(2, .int x2), (0, .ref (ad 0)), (1, .int p0)]) hC.x hC.b dX11_door_16 rfl hl (by decide) rfl (fun ls hl => ?_)
    refine lv_aload_n hC.x hC.b dX11_door_17 rfl (lv_at hl 1 rfl) ?_
    refine r_getc (z := 10) hC hH fl_X11_12_11 (hL _ mX0) sX0 rfl dX11_door_18 ?_
    refine lv_iload_n hC.x hC.b dX11_door_21 rfl (lv_at hl 2 rfl) ?_
    refine r_puti hC hF hH pl_X11_79_2 (hL _ mX10) sX10 rfl h dX11_door_22 (fun m3 H locs h hH => ?_)
    refine lv_iload_n hC.x hC.b dX11_door_25 rfl (lv_at hl 0 rfl) ?_
    rw [hQ]
    exact e_i hC hr hH h dX11_door_26
  · refine lv_iconst (v := -1) hC.x hC.b dX11_door_7 rfl ?_
    rw [hQ]
    exact e_i hC hr hH h dX11_door_8
theorem a_X11_find : noMH yX11_find.cls ∧ arity yX11_find.desc 1 := by decide +kernel
theorem fw_X11_100 : ∀ j, j < 7 → gFl RX11 100 (kci j) 2 := by
  intro j hj
  rcases (show j = 0 ∨ j = 1 ∨ j = 2 ∨ j = 3 ∨ j = 4 ∨ j = 5 ∨ j = 6 by omega) with rfl | rfl | rfl | rfl | rfl | rfl | rfl
  · exact ⟨RX9, TX9, 6, "OnTiptoe$Walker", rfl, inW9, by decide, kw265, Or.inl rfl⟩
  · exact ⟨RX1, TX1, 6, "OnTiptoe$Walker", rfl, inW1, by decide, kw265, Or.inl rfl⟩
  · exact ⟨RX6, TX6, 6, "OnTiptoe$Walker", rfl, inW6, by decide, kw265, Or.inl rfl⟩
  · exact ⟨RX5, TX5, 6, "OnTiptoe$Walker", rfl, inW5, by decide, kw265, Or.inl rfl⟩
  · exact ⟨RX7, TX7, 6, "OnTiptoe$Walker", rfl, inW7, by decide, kw265, Or.inl rfl⟩
  · exact ⟨RX0, TX0, 6, "OnTiptoe$Walker", rfl, inW0, by decide, kw265, Or.inl rfl⟩
  · exact ⟨RX8, TX8, 8, "OnTiptoe$Walker", rfl, inW8, by decide, kw265, Or.inl rfl⟩
theorem pw_X11_100 : ∀ j, j < 7 → gPl RX11 100 (kci j) 2 "I" := by
  intro j hj
  rcases (show j = 0 ∨ j = 1 ∨ j = 2 ∨ j = 3 ∨ j = 4 ∨ j = 5 ∨ j = 6 by omega) with rfl | rfl | rfl | rfl | rfl | rfl | rfl
  · exact ⟨RX9, TX9, 6, tyX9, "OnTiptoe$Walker", rfl, inW9, tyX9_ok, nmX9, by decide, kw265, Or.inl rfl, rfl, rfl⟩
  · exact ⟨RX1, TX1, 6, tyX1, "OnTiptoe$Walker", rfl, inW1, tyX1_ok, nmX1, by decide, kw265, Or.inl rfl, rfl, rfl⟩
  · exact ⟨RX6, TX6, 6, tyX6, "OnTiptoe$Walker", rfl, inW6, tyX6_ok, nmX6, by decide, kw265, Or.inl rfl, rfl, rfl⟩
  · exact ⟨RX5, TX5, 6, tyX5, "OnTiptoe$Walker", rfl, inW5, tyX5_ok, nmX5, by decide, kw265, Or.inl rfl, rfl, rfl⟩
  · exact ⟨RX7, TX7, 6, tyX7, "OnTiptoe$Walker", rfl, inW7, tyX7_ok, nmX7, by decide, kw265, Or.inl rfl, rfl, rfl⟩
  · exact ⟨RX0, TX0, 6, tyX0, "OnTiptoe$Walker", rfl, inW0, tyX0_ok, nmX0, by decide, kw265, Or.inl rfl, rfl, rfl⟩
  · exact ⟨RX8, TX8, 8, tyX8, "OnTiptoe$Walker", rfl, inW8, tyX8_ok, nmX8, by decide, kw265, Or.inl rfl, rfl, rfl⟩
def f_X11_put (L : List Nat) (mem : gMem) (p0 : Int32) (p1 : Int32) : Option (Int32 × gMem) := bd (f_X11_find L mem p0) fun (o1 : Option Nat) => oc o1 (some ((-1 : Int32), mem)) fun w2 => if wok L w2 then bd (f_X11_isBoard p1) fun (x3 : Int32) => if x3 = 0 then (some ((-1 : Int32), mem)) else lt1 (gI mem w2 2) fun (x4 : Int32) => lt1 (gsI mem w2 2 p1) fun (m5 : gMem) => some (x4, m5) else none
set_option maxRecDepth 100000 in
set_option maxHeartbeats 4000000 in
theorem c_X11_put {l : Launch} {E : State → Prop} {D : va_G} {cy : Nat → ClassId} {ad : Nat → Nat} {L : List Nat} {mem : gMem} {p0 : Int32} {p1 : Int32} {rv : Int32} {memz : gMem} (hk : gOk ad L) (hL : ∀ o ∈ LX0, o ∈ L) (hE : gEok ad L E)  (h : f_X11_put L mem p0 p1 = some (rv, memz)) : gMet l yX11_put cX11_put 5 (some .int) 1 21 E D cy shX ad L [.ref (ad 0), .int p0, .int p1] mem memz (some (.int rv)) := by
  refine g_go (own := RX11) (by decide +kernel) rfl hE (Nat.le_of_ble_eq_true rfl) ?_
  intro p e s m args below meth c R Q hargs hR hQ hEs hC hr hX H locs ls hH hl
  have hF := gF_of hk
  have hl : lv_has ls 5 [(0, .ref (ad 0)), (1, .int p0), (2, .int p1)] := hl
  refine lv_aload_n hC.x hC.b dX11_put_0 rfl (lv_at hl 0 rfl) ?_
  refine lv_iload_n hC.x hC.b dX11_put_1 rfl (lv_at hl 1 rfl) ?_
  obtain ⟨o1, hf1, h⟩ := bd_e h
  refine c_V1 (As := [.int p0]) (rest := []) (o := 0) (q := (RX11, TX11, 13)) hC hX hE.2.1 hF hH (c_X11_find (l := l) hk hL hE hf1) kw267 kw268 kw269 kw2 kw270 a_X11_find.1 a_X11_find.2 (hL _ mX0) sX0 rfl rfl hl.1 (rmk hR (by decide) (by decide)) (Nat.le_of_ble_eq_true rfl) dX11_put_2 (fun H locs hH => ?_)
  refine o_astn (lv' := [(3, va_rf (Option.map ad o1)), (0, .ref (ad 0)), (1, .int p0), (2, .int p1)]) hC dX11_put_5 rfl hl (by decide) rfl (fun ls hl => ?_)
  refine o_aldn hC dX11_put_6 rfl (lv_at hl 0 rfl) ?_
  refine b_null (tgt := 17) hC dX11_put_7 (by decide) h (fun ho h => ?_) (fun w2 hyw2 h => ?_)
  · subst ho
    have hl : lv_has ls 5 [(3, .null), (0, .ref (ad 0)), (1, .int p0), (2, .int p1)] := hl
    refine lv_iconst (v := -1) hC.x hC.b dX11_put_17 rfl ?_
    rw [hQ]
    exact e_i hC hr hH h dX11_put_18
  · subst hyw2
    have hl : lv_has ls 5 [(3, .ref (ad w2)), (0, .ref (ad 0)), (1, .int p0), (2, .int p1)] := hl
    obtain ⟨hww2, h⟩ := chk h
    refine lv_iload_n hC.x hC.b dX11_put_10 rfl (lv_at hl 3 rfl) ?_
    obtain ⟨x3, hf3, h⟩ := bd_e h
    refine c_S1 (As := [.int p1]) (rest := []) hC hX hE.2.1 hF hH (c_X11_isBoard (l := l) hk hL hE hf3) kw156 kw157 kw2 kw158 a_X11_isBoard.1 a_X11_isBoard.2 rfl hl.1 (rmk hR (by decide) (by decide)) (Nat.le_of_ble_eq_true rfl) dX11_put_11 (fun H locs hH => ?_)
    refine b_if_ne (tgt := 19) hC dX11_put_14 (by decide) h (fun h => ?_) (fun h => ?_)
    · refine lv_aload_n hC.x hC.b dX11_put_19 rfl (lv_at hl 0 rfl) ?_
      refine r_geti hC hH (fw_X11_100 _ hww2.2.2.1) hww2.2.2.2.1 (sW0 hww2) rfl dX11_put_20 ?_
      refine n_i h (fun x4 h => ?_)
      refine lv_istore (lv' := [(4, .int x4), (3, .ref (ad w2)), (0, .ref (ad 0)), (1, .int p0), (2, .int p1)]) hC.x hC.b dX11_put_23 hl (by decide) rfl (fun ls hl => ?_)
      refine lv_aload_n hC.x hC.b dX11_put_25 rfl (lv_at hl 1 rfl) ?_
      refine lv_iload_n hC.x hC.b dX11_put_26 rfl (lv_at hl 4 rfl) ?_
      refine r_puti hC hF hH (pw_X11_100 _ hww2.2.2.1) hww2.2.2.2.1 (sW0 hww2) rfl h dX11_put_27 (fun m5 H locs h hH => ?_)
      refine lv_iload hC.x hC.b dX11_put_30 (lv_at hl 0 rfl) ?_
      rw [hQ]
      exact e_i hC hr hH h dX11_put_32
    · refine lv_iconst (v := -1) hC.x hC.b dX11_put_17 rfl ?_
      rw [hQ]
      exact e_i hC hr hH h dX11_put_18
theorem fl_X11_112_8 : gFl RX11 112 8 6 := ⟨RX8, TX8, 8, "OnTiptoe$Told", rfl, inW8, by decide, kw429, Or.inl rfl⟩
def f_X11_row (L : List Nat) (mem : gMem) (p0 : Int32) (p1 : Int32) (p2 : Int32) : Option (Int32 × gMem) := bd (f_X11_find L mem p0) fun (o1 : Option Nat) => oc o1 (some ((-1 : Int32), mem)) fun w2 => if wok L w2 then if p1 < 0 then (some ((-1 : Int32), mem)) else if p1 < (4 : Int32) then (if p2 < 0 then (some ((-2 : Int32), mem)) else if p2 ≤ (9 : Int32) then (if (if wkd w2 ∈ [6] then (1 : Int32) else 0) = 0 then (some ((-3 : Int32), mem)) else if wkd w2 = 6 then if okI p1 4 then lt1 (gI mem (w2 + 2) (ix p1)) fun (x3 : Int32) => if okI p1 4 then lt1 (gsI mem (w2 + 2) (ix p1) p2) fun (m4 : gMem) => some (x3, m4) else none else none else none) else some ((-2 : Int32), mem)) else some ((-1 : Int32), mem) else none
set_option maxRecDepth 100000 in
set_option maxHeartbeats 4000000 in
theorem c_X11_row {l : Launch} {E : State → Prop} {D : va_G} {cy : Nat → ClassId} {ad : Nat → Nat} {L : List Nat} {mem : gMem} {p0 : Int32} {p1 : Int32} {p2 : Int32} {rv : Int32} {memz : gMem} (hk : gOk ad L) (hL : ∀ o ∈ LX0, o ∈ L) (hE : gEok ad L E)  (h : f_X11_row L mem p0 p1 p2 = some (rv, memz)) : gMet l yX11_row cX11_row 7 (some .int) 1 21 E D cy shX ad L [.ref (ad 0), .int p0, .int p1, .int p2] mem memz (some (.int rv)) := by
  refine g_go (own := RX11) (by decide +kernel) rfl hE (Nat.le_of_ble_eq_true rfl) ?_
  intro p e s m args below meth c R Q hargs hR hQ hEs hC hr hX H locs ls hH hl
  have hF := gF_of hk
  have hl : lv_has ls 7 [(0, .ref (ad 0)), (1, .int p0), (2, .int p1), (3, .int p2)] := hl
  refine lv_aload_n hC.x hC.b dX11_row_0 rfl (lv_at hl 0 rfl) ?_
  refine lv_iload_n hC.x hC.b dX11_row_1 rfl (lv_at hl 1 rfl) ?_
  obtain ⟨o1, hf1, h⟩ := bd_e h
  refine c_V1 (As := [.int p0]) (rest := []) (o := 0) (q := (RX11, TX11, 13)) hC hX hE.2.1 hF hH (c_X11_find (l := l) hk hL hE hf1) kw267 kw268 kw269 kw2 kw270 a_X11_find.1 a_X11_find.2 (hL _ mX0) sX0 rfl rfl hl.1 (rmk hR (by decide) (by decide)) (Nat.le_of_ble_eq_true rfl) dX11_row_2 (fun H locs hH => ?_)
  refine o_ast (lv' := [(4, va_rf (Option.map ad o1)), (0, .ref (ad 0)), (1, .int p0), (2, .int p1), (3, .int p2)]) hC dX11_row_5 hl (by decide) rfl (fun ls hl => ?_)
  refine o_ald hC dX11_row_7 (lv_at hl 0 rfl) ?_
  refine b_null (tgt := 21) hC dX11_row_9 (by decide) h (fun ho h => ?_) (fun w2 hyw2 h => ?_)
  · subst ho
    have hl : lv_has ls 7 [(4, .null), (0, .ref (ad 0)), (1, .int p0), (2, .int p1), (3, .int p2)] := hl
    refine lv_iconst (v := -1) hC.x hC.b dX11_row_21 rfl ?_
    rw [hQ]
    exact e_i hC hr hH h dX11_row_22
  · subst hyw2
    have hl : lv_has ls 7 [(4, .ref (ad w2)), (0, .ref (ad 0)), (1, .int p0), (2, .int p1), (3, .int p2)] := hl
    obtain ⟨hww2, h⟩ := chk h
    refine lv_iload_n hC.x hC.b dX11_row_12 rfl (lv_at hl 3 rfl) ?_
    refine b_if_lt (tgt := 21) hC dX11_row_13 (by decide) h (fun h => ?_) (fun h => ?_)
    · refine lv_iconst (v := -1) hC.x hC.b dX11_row_21 rfl ?_
      rw [hQ]
      exact e_i hC hr hH h dX11_row_22
    · refine lv_iload_n hC.x hC.b dX11_row_16 rfl (lv_at hl 3 rfl) ?_
      refine lv_iconst (v := 4) hC.x hC.b dX11_row_17 rfl ?_
      refine b_ic_lt (tgt := 23) hC dX11_row_18 (by decide) h (fun h => ?_) (fun h => ?_)
      · refine lv_iload_n hC.x hC.b dX11_row_23 rfl (lv_at hl 4 rfl) ?_
        refine b_if_lt (tgt := 33) hC dX11_row_24 (by decide) h (fun h => ?_) (fun h => ?_)
        · refine lv_bipush (v := -2) hC.x hC.b dX11_row_33 rfl ?_
          rw [hQ]
          exact e_i hC hr hH h dX11_row_35
        · refine lv_iload_n hC.x hC.b dX11_row_27 rfl (lv_at hl 4 rfl) ?_
          refine lv_bipush (v := 9) hC.x hC.b dX11_row_28 rfl ?_
          refine b_ic_le (tgt := 36) hC dX11_row_30 (by decide) h (fun h => ?_) (fun h => ?_)
          · refine lv_aload hC.x hC.b dX11_row_36 (lv_at hl 0 rfl) ?_
            refine r_inst inst6 hC hH hww2 (hE.2.2 _ hEs) kw217 dX11_row_38 ?_
            refine b_if_eq (tgt := 71) hC dX11_row_41 (by decide) h (fun h => ?_) (fun h => ?_)
            · refine lv_bipush (v := -3) hC.x hC.b dX11_row_71 rfl ?_
              rw [hQ]
              exact e_i hC hr hH h dX11_row_73
            · refine lv_aload hC.x hC.b dX11_row_44 (lv_at hl 0 rfl) ?_
              obtain ⟨hkw2, h⟩ := chk h
              refine r_cast hC hH hww2 hkw2 kw217 dX11_row_46 ?_
              refine lv_astore (lv' := [(5, .ref (ad w2)), (4, .ref (ad w2)), (0, .ref (ad 0)), (1, .int p0), (2, .int p1), (3, .int p2)]) hC.x hC.b dX11_row_49 hl (by decide) rfl (fun ls hl => ?_)
              refine lv_aload hC.x hC.b dX11_row_51 (lv_at hl 0 rfl) ?_
              refine r_getc (z := (w2 + 2)) hC hH fl_X11_112_8 hww2.2.2.2.1 (sWT hww2 hkw2) rfl dX11_row_53 ?_
              refine lv_iload_n hC.x hC.b dX11_row_56 rfl (lv_at hl 4 rfl) ?_
              refine r_iald hC hH (hww2.2.2.2.2.2 hkw2).1 (sW2 hww2) h dX11_row_57 (fun h => ?_)
              refine n_i h (fun x3 h => ?_)
              refine lv_istore (lv' := [(6, .int x3), (5, .ref (ad w2)), (4, .ref (ad w2)), (0, .ref (ad 0)), (1, .int p0), (2, .int p1), (3, .int p2)]) hC.x hC.b dX11_row_58 hl (by decide) rfl (fun ls hl => ?_)
              refine lv_aload hC.x hC.b dX11_row_60 (lv_at hl 1 rfl) ?_
              refine r_getc (z := (w2 + 2)) hC hH fl_X11_112_8 hww2.2.2.2.1 (sWT hww2 hkw2) rfl dX11_row_62 ?_
              refine lv_iload_n hC.x hC.b dX11_row_65 rfl (lv_at hl 5 rfl) ?_
              refine lv_iload_n hC.x hC.b dX11_row_66 rfl (lv_at hl 6 rfl) ?_
              refine r_iast hC hF hH (hww2.2.2.2.2.2 hkw2).1 (sW2 hww2) h dX11_row_67 (fun m4 H locs h hH => ?_)
              refine lv_iload hC.x hC.b dX11_row_68 (lv_at hl 0 rfl) ?_
              rw [hQ]
              exact e_i hC hr hH h dX11_row_70
          · refine lv_bipush (v := -2) hC.x hC.b dX11_row_33 rfl ?_
            rw [hQ]
            exact e_i hC hr hH h dX11_row_35
      · refine lv_iconst (v := -1) hC.x hC.b dX11_row_21 rfl ?_
        rw [hQ]
        exact e_i hC hr hH h dX11_row_22
theorem a_X4_addSign : noMH yX4_addSign.cls ∧ arity yX4_addSign.desc 1 := by decide +kernel
def f_X11_feed (L : List Nat) (mem : gMem) (p0 : Int32) : Option (Int32 × gMem) := if p0 < 0 then (some ((-2 : Int32), mem)) else if p0 ≤ (127 : Int32) then (bd2 (f_X4_addSign L mem (p0.toInt8.toInt32)) fun (x2 : Int32) (m1 : gMem) => if x2 = 0 then (some ((-4 : Int32), m1)) else some ((gI m1 30 1), m1)) else some ((-2 : Int32), mem)
set_option maxRecDepth 100000 in
set_option maxHeartbeats 4000000 in
theorem c_X11_feed {l : Launch} {E : State → Prop} {D : va_G} {cy : Nat → ClassId} {ad : Nat → Nat} {L : List Nat} {mem : gMem} {p0 : Int32} {rv : Int32} {memz : gMem} (hk : gOk ad L) (hL : ∀ o ∈ LX0, o ∈ L) (hE : gEok ad L E)  (h : f_X11_feed L mem p0 = some (rv, memz)) : gMet l yX11_feed cX11_feed 2 (some .int) 1 21 E D cy shX ad L [.ref (ad 0), .int p0] mem memz (some (.int rv)) := by
  refine g_go (own := RX11) (by decide +kernel) rfl hE (Nat.le_of_ble_eq_true rfl) ?_
  intro p e s m args below meth c R Q hargs hR hQ hEs hC hr hX H locs ls hH hl
  have hF := gF_of hk
  have hl : lv_has ls 2 [(0, .ref (ad 0)), (1, .int p0)] := hl
  refine lv_iload_n hC.x hC.b dX11_feed_0 rfl (lv_at hl 1 rfl) ?_
  refine b_if_lt (tgt := 10) hC dX11_feed_1 (by decide) h (fun h => ?_) (fun h => ?_)
  · refine lv_bipush (v := -2) hC.x hC.b dX11_feed_10 rfl ?_
    rw [hQ]
    exact e_i hC hr hH h dX11_feed_12
  · refine lv_iload_n hC.x hC.b dX11_feed_4 rfl (lv_at hl 1 rfl) ?_
    refine lv_bipush (v := 127) hC.x hC.b dX11_feed_5 rfl ?_
    refine b_ic_le (tgt := 13) hC dX11_feed_7 (by decide) h (fun h => ?_) (fun h => ?_)
    · refine lv_aload_n hC.x hC.b dX11_feed_13 rfl (lv_at hl 0 rfl) ?_
      refine r_getc (z := 30) hC hH fl_X11_36_11 (hL _ mX0) sX0 rfl dX11_feed_14 ?_
      refine lv_iload_n hC.x hC.b dX11_feed_17 rfl (lv_at hl 1 rfl) ?_
      refine lv_i2b hC.x hC.b dX11_feed_18 rfl ?_
      obtain ⟨x2, m1, hf2, h⟩ := bd2_e h
      refine c_V1 (As := [.int (p0.toInt8.toInt32)]) (rest := []) (o := 30) (q := (RX4, TX4, 4)) hC hX hE.2.1 hF hH (c_X4_addSign (l := l) hk hL hE hf2) kw439 kw440 kw441 kw24 kw442 a_X4_addSign.1 a_X4_addSign.2 (hL _ mX30) sX30 rfl rfl hl.1 (rmk hR (by decide) (by decide)) (Nat.le_of_ble_eq_true rfl) dX11_feed_19 (fun H locs hH => ?_)
      refine b_if_eq (tgt := 35) hC dX11_feed_22 (by decide) h (fun h => ?_) (fun h => ?_)
      · refine lv_bipush (v := -4) hC.x hC.b dX11_feed_35 rfl ?_
        rw [hQ]
        exact e_i hC hr hH h dX11_feed_37
      · refine lv_aload_n hC.x hC.b dX11_feed_25 rfl (lv_at hl 0 rfl) ?_
        refine r_getc (z := 30) hC hH fl_X11_36_11 (hL _ mX0) sX0 rfl dX11_feed_26 ?_
        refine r_geti hC hH fl_X11_119_4 (hL _ mX30) sX30 rfl dX11_feed_29 ?_
        refine lv_goto (tgt := 37) hC.x hC.b dX11_feed_32 (by decide) ?_
        rw [hQ]
        exact e_i hC hr hH h dX11_feed_37
    · refine lv_bipush (v := -2) hC.x hC.b dX11_feed_10 rfl ?_
      rw [hQ]
      exact e_i hC hr hH h dX11_feed_12
theorem fl_X11_163_2 : gFl RX11 163 2 7 := ⟨RX2, TX2, 17, "OnTiptoe$House", rfl, inW2, by decide, kw785, Or.inl rfl⟩
theorem pl_X11_160_2 : gPl RX11 160 2 8 "I" := ⟨RX2, TX2, 17, tyX2, "OnTiptoe$House", rfl, inW2, tyX2_ok, nmX2, by decide, kw784, Or.inl rfl, rfl, rfl⟩
def f_X11_way (L : List Nat) (mem : gMem) (p0 : Int32) : Option (Int32 × gMem) := if p0 = (-1 : Int32) then (lt1 (gsI mem 10 8 (0 : Int32)) fun (m5 : gMem) => some ((0 : Int32), m5)) else bd (f_X11_isBoard p0) fun (x1 : Int32) => jn ((if (gI mem 10 8) < 0 then (some ((-4 : Int32), mem)) else if (gI mem 10 8) < (12 : Int32) then (if okI (gI mem 10 8) 12 then lt1 (gsI mem 12 (ix (gI mem 10 8)) p0) fun (m3 : gMem) => lt1 (gsI m3 10 8 ((gI m3 10 8) + (1 : Int32))) fun (m4 : gMem) => some ((gI m4 10 8), m4) else none) else some ((-4 : Int32), mem)) : Option (Int32 × gMem)) fun j2 => if x1 = 0 then (if p0 = (-2 : Int32) then (j2) else some ((-1 : Int32), mem)) else j2
set_option maxRecDepth 100000 in
set_option maxHeartbeats 4000000 in
theorem c_X11_way {l : Launch} {E : State → Prop} {D : va_G} {cy : Nat → ClassId} {ad : Nat → Nat} {L : List Nat} {mem : gMem} {p0 : Int32} {rv : Int32} {memz : gMem} (hk : gOk ad L) (hL : ∀ o ∈ LX0, o ∈ L) (hE : gEok ad L E)  (h : f_X11_way L mem p0 = some (rv, memz)) : gMet l yX11_way cX11_way 2 (some .int) 1 20 E D cy shX ad L [.ref (ad 0), .int p0] mem memz (some (.int rv)) := by
  refine g_go (own := RX11) (by decide +kernel) rfl hE (Nat.le_of_ble_eq_true rfl) ?_
  intro p e s m args below meth c R Q hargs hR hQ hEs hC hr hX H locs ls hH hl
  have hF := gF_of hk
  have hl : lv_has ls 2 [(0, .ref (ad 0)), (1, .int p0)] := hl
  refine lv_iload_n hC.x hC.b dX11_way_0 rfl (lv_at hl 1 rfl) ?_
  refine lv_iconst (v := -1) hC.x hC.b dX11_way_1 rfl ?_
  refine b_ic_ne (tgt := 15) hC dX11_way_2 (by decide) h (fun h => ?_) (fun h => ?_)
  · refine lv_iload_n hC.x hC.b dX11_way_15 rfl (lv_at hl 1 rfl) ?_
    obtain ⟨x1, hf1, h⟩ := bd_e h
    refine c_S1 (As := [.int p0]) (rest := []) hC hX hE.2.1 hF hH (c_X11_isBoard (l := l) hk hL hE hf1) kw156 kw157 kw2 kw158 a_X11_isBoard.1 a_X11_isBoard.2 rfl hl.1 (rmk hR (by decide) (by decide)) (Nat.le_of_ble_eq_true rfl) dX11_way_16 (fun H locs hH => ?_)
    obtain ⟨j2, ej2, h⟩ := jn_e h
    have hj2 : ∀  (H : Heap) (locs : List Loc) (ls : Array Slot), j2 = some (rv, memz) → gH D cy shX ad L (gA ad L) s.heap mem H locs → lv_has ls 2 [(0, .ref (ad 0)), (1, .int p0)] → W p l e R s m args below meth c H locs 0 0 Q (F0 m 30 ls []) := by
      intro H locs ls h hH hl
      have h := ap0 ej2 h
      refine lv_aload_n hC.x hC.b dX11_way_30 rfl (lv_at hl 0 rfl) ?_
      refine r_getc (z := 10) hC hH fl_X11_12_11 (hL _ mX0) sX0 rfl dX11_way_31 ?_
      refine r_geti hC hH fl_X11_160_2 (hL _ mX10) sX10 rfl dX11_way_34 ?_
      refine b_if_lt (tgt := 52) hC dX11_way_37 (by decide) h (fun h => ?_) (fun h => ?_)
      · refine lv_bipush (v := -4) hC.x hC.b dX11_way_52 rfl ?_
        rw [hQ]
        exact e_i hC hr hH h dX11_way_54
      · refine lv_aload_n hC.x hC.b dX11_way_40 rfl (lv_at hl 0 rfl) ?_
        refine r_getc (z := 10) hC hH fl_X11_12_11 (hL _ mX0) sX0 rfl dX11_way_41 ?_
        refine r_geti hC hH fl_X11_160_2 (hL _ mX10) sX10 rfl dX11_way_44 ?_
        refine lv_bipush (v := 12) hC.x hC.b dX11_way_47 rfl ?_
        refine b_ic_lt (tgt := 55) hC dX11_way_49 (by decide) h (fun h => ?_) (fun h => ?_)
        · refine lv_aload_n hC.x hC.b dX11_way_55 rfl (lv_at hl 0 rfl) ?_
          refine r_getc (z := 10) hC hH fl_X11_12_11 (hL _ mX0) sX0 rfl dX11_way_56 ?_
          refine r_getc (z := 12) hC hH fl_X11_163_2 (hL _ mX10) sX10 rfl dX11_way_59 ?_
          refine lv_aload_n hC.x hC.b dX11_way_62 rfl (lv_at hl 0 rfl) ?_
          refine r_getc (z := 10) hC hH fl_X11_12_11 (hL _ mX0) sX0 rfl dX11_way_63 ?_
          refine r_geti hC hH fl_X11_160_2 (hL _ mX10) sX10 rfl dX11_way_66 ?_
          refine lv_iload_n hC.x hC.b dX11_way_69 rfl (lv_at hl 1 rfl) ?_
          refine r_iast hC hF hH (hL _ mX12) sX12 h dX11_way_70 (fun m3 H locs h hH => ?_)
          refine lv_aload_n hC.x hC.b dX11_way_71 rfl (lv_at hl 0 rfl) ?_
          refine r_getc (z := 10) hC hH fl_X11_12_11 (hL _ mX0) sX0 rfl dX11_way_72 ?_
          refine lv_dup hC.x hC.b dX11_way_75 rfl ?_
          refine r_geti hC hH fl_X11_160_2 (hL _ mX10) sX10 rfl dX11_way_76 ?_
          refine lv_iconst (v := 1) hC.x hC.b dX11_way_79 rfl ?_
          refine lv_iadd hC.x hC.b dX11_way_80 ?_
          refine r_puti hC hF hH pl_X11_160_2 (hL _ mX10) sX10 rfl h dX11_way_81 (fun m4 H locs h hH => ?_)
          refine lv_aload_n hC.x hC.b dX11_way_84 rfl (lv_at hl 0 rfl) ?_
          refine r_getc (z := 10) hC hH fl_X11_12_11 (hL _ mX0) sX0 rfl dX11_way_85 ?_
          refine r_geti hC hH fl_X11_160_2 (hL _ mX10) sX10 rfl dX11_way_88 ?_
          rw [hQ]
          exact e_i hC hr hH h dX11_way_91
        · refine lv_bipush (v := -4) hC.x hC.b dX11_way_52 rfl ?_
          rw [hQ]
          exact e_i hC hr hH h dX11_way_54
    clear ej2
    refine b_if_ne (tgt := 30) hC dX11_way_19 (by decide) h (fun h => ?_) (fun h => ?_)
    · exact hj2  H locs ls h hH (lv_sub hl [0, 1] rfl)
    · refine lv_iload_n hC.x hC.b dX11_way_22 rfl (lv_at hl 1 rfl) ?_
      refine lv_bipush (v := -2) hC.x hC.b dX11_way_23 rfl ?_
      refine b_ic_eq (tgt := 30) hC dX11_way_25 (by decide) h (fun h => ?_) (fun h => ?_)
      · exact hj2  H locs ls h hH (lv_sub hl [0, 1] rfl)
      · refine lv_iconst (v := -1) hC.x hC.b dX11_way_28 rfl ?_
        rw [hQ]
        exact e_i hC hr hH h dX11_way_29
  · refine lv_aload_n hC.x hC.b dX11_way_5 rfl (lv_at hl 0 rfl) ?_
    refine r_getc (z := 10) hC hH fl_X11_12_11 (hL _ mX0) sX0 rfl dX11_way_6 ?_
    refine lv_iconst (v := 0) hC.x hC.b dX11_way_9 rfl ?_
    refine r_puti hC hF hH pl_X11_160_2 (hL _ mX10) sX10 rfl h dX11_way_10 (fun m5 H locs h hH => ?_)
    refine lv_iconst (v := 0) hC.x hC.b dX11_way_13 rfl ?_
    rw [hQ]
    exact e_i hC hr hH h dX11_way_14
theorem fl_X11_207_2 : gFl RX11 207 2 9 := ⟨RX2, TX2, 17, "OnTiptoe$House", rfl, inW2, by decide, kw971, Or.inl rfl⟩
theorem fl_X11_210_2 : gFl RX11 210 2 10 := ⟨RX2, TX2, 17, "OnTiptoe$House", rfl, inW2, by decide, kw972, Or.inl rfl⟩
theorem fl_X11_213_2 : gFl RX11 213 2 11 := ⟨RX2, TX2, 17, "OnTiptoe$House", rfl, inW2, by decide, kw973, Or.inl rfl⟩
theorem pl_X11_204_2 : gPl RX11 204 2 12 "I" := ⟨RX2, TX2, 17, tyX2, "OnTiptoe$House", rfl, inW2, tyX2_ok, nmX2, by decide, kw970, Or.inl rfl, rfl, rfl⟩
def f_X11_see (L : List Nat) (mem : gMem) (p0 : Int32) (p1 : Int32) (p2 : Int32) : Option (Int32 × gMem) := if p0 = (-1 : Int32) then (lt1 (gsI mem 10 12 (0 : Int32)) fun (m9 : gMem) => some ((0 : Int32), m9)) else bd (f_X11_isBoard p0) fun (x1 : Int32) => if x1 = 0 then (some ((-1 : Int32), mem)) else if p1 < 0 then (some ((-2 : Int32), mem)) else if p1 ≤ (30 : Int32) then (lt1 (gI mem 10 12) fun (x2 : Int32) => if x2 < 0 then (some ((-4 : Int32), mem)) else if x2 < (6 : Int32) then (if okI x2 6 then lt1 (gsI mem 13 (ix x2) p0) fun (m3 : gMem) => if okI x2 6 then lt1 (gsI m3 14 (ix x2) p1) fun (m4 : gMem) => jn ((fun (x6 : Int32) => if okI x2 6 then lt1 (gsI m4 15 (ix x2) x6) fun (m7 : gMem) => lt1 (gsI m7 10 12 (x2 + (1 : Int32))) fun (m8 : gMem) => some ((gI m8 10 12), m8) else none) : Int32 → Option (Int32 × gMem)) fun j5 => if p2 = 0 then ((j5 (0 : Int32))) else (j5 (1 : Int32)) else none else none) else some ((-4 : Int32), mem)) else some ((-2 : Int32), mem)
set_option maxRecDepth 100000 in
set_option maxHeartbeats 4000000 in
theorem c_X11_see {l : Launch} {E : State → Prop} {D : va_G} {cy : Nat → ClassId} {ad : Nat → Nat} {L : List Nat} {mem : gMem} {p0 : Int32} {p1 : Int32} {p2 : Int32} {rv : Int32} {memz : gMem} (hk : gOk ad L) (hL : ∀ o ∈ LX0, o ∈ L) (hE : gEok ad L E)  (h : f_X11_see L mem p0 p1 p2 = some (rv, memz)) : gMet l yX11_see cX11_see 5 (some .int) 1 20 E D cy shX ad L [.ref (ad 0), .int p0, .int p1, .int p2] mem memz (some (.int rv)) := by
  refine g_go (own := RX11) (by decide +kernel) rfl hE (Nat.le_of_ble_eq_true rfl) ?_
  intro p e s m args below meth c R Q hargs hR hQ hEs hC hr hX H locs ls hH hl
  have hF := gF_of hk
  have hl : lv_has ls 5 [(0, .ref (ad 0)), (1, .int p0), (2, .int p1), (3, .int p2)] := hl
  refine lv_iload_n hC.x hC.b dX11_see_0 rfl (lv_at hl 1 rfl) ?_
  refine lv_iconst (v := -1) hC.x hC.b dX11_see_1 rfl ?_
  refine b_ic_ne (tgt := 15) hC dX11_see_2 (by decide) h (fun h => ?_) (fun h => ?_)
  · refine lv_iload_n hC.x hC.b dX11_see_15 rfl (lv_at hl 1 rfl) ?_
    obtain ⟨x1, hf1, h⟩ := bd_e h
    refine c_S1 (As := [.int p0]) (rest := []) hC hX hE.2.1 hF hH (c_X11_isBoard (l := l) hk hL hE hf1) kw156 kw157 kw2 kw158 a_X11_isBoard.1 a_X11_isBoard.2 rfl hl.1 (rmk hR (by decide) (by decide)) (Nat.le_of_ble_eq_true rfl) dX11_see_16 (fun H locs hH => ?_)
    refine b_if_ne (tgt := 24) hC dX11_see_19 (by decide) h (fun h => ?_) (fun h => ?_)
    · refine lv_iload_n hC.x hC.b dX11_see_24 rfl (lv_at hl 2 rfl) ?_
      refine b_if_lt (tgt := 34) hC dX11_see_25 (by decide) h (fun h => ?_) (fun h => ?_)
      · refine lv_bipush (v := -2) hC.x hC.b dX11_see_34 rfl ?_
        rw [hQ]
        exact e_i hC hr hH h dX11_see_36
      · refine lv_iload_n hC.x hC.b dX11_see_28 rfl (lv_at hl 2 rfl) ?_
        refine lv_bipush (v := 30) hC.x hC.b dX11_see_29 rfl ?_
        refine b_ic_le (tgt := 37) hC dX11_see_31 (by decide) h (fun h => ?_) (fun h => ?_)
        · refine lv_aload_n hC.x hC.b dX11_see_37 rfl (lv_at hl 0 rfl) ?_
          refine r_getc (z := 10) hC hH fl_X11_12_11 (hL _ mX0) sX0 rfl dX11_see_38 ?_
          refine r_geti hC hH fl_X11_204_2 (hL _ mX10) sX10 rfl dX11_see_41 ?_
          refine n_i h (fun x2 h => ?_)
          refine lv_istore (lv' := [(4, .int x2), (0, .ref (ad 0)), (1, .int p0), (2, .int p1), (3, .int p2)]) hC.x hC.b dX11_see_44 hl (by decide) rfl (fun ls hl => ?_)
          refine lv_iload hC.x hC.b dX11_see_46 (lv_at hl 0 rfl) ?_
          refine b_if_lt (tgt := 58) hC dX11_see_48 (by decide) h (fun h => ?_) (fun h => ?_)
          · refine lv_bipush (v := -4) hC.x hC.b dX11_see_58 rfl ?_
            rw [hQ]
            exact e_i hC hr hH h dX11_see_60
          · refine lv_iload hC.x hC.b dX11_see_51 (lv_at hl 0 rfl) ?_
            refine lv_bipush (v := 6) hC.x hC.b dX11_see_53 rfl ?_
            refine b_ic_lt (tgt := 61) hC dX11_see_55 (by decide) h (fun h => ?_) (fun h => ?_)
            · refine lv_aload_n hC.x hC.b dX11_see_61 rfl (lv_at hl 1 rfl) ?_
              refine r_getc (z := 10) hC hH fl_X11_12_11 (hL _ mX0) sX0 rfl dX11_see_62 ?_
              refine r_getc (z := 13) hC hH fl_X11_207_2 (hL _ mX10) sX10 rfl dX11_see_65 ?_
              refine lv_iload hC.x hC.b dX11_see_68 (lv_at hl 0 rfl) ?_
              refine lv_iload_n hC.x hC.b dX11_see_70 rfl (lv_at hl 2 rfl) ?_
              refine r_iast hC hF hH (hL _ mX13) sX13 h dX11_see_71 (fun m3 H locs h hH => ?_)
              refine lv_aload_n hC.x hC.b dX11_see_72 rfl (lv_at hl 1 rfl) ?_
              refine r_getc (z := 10) hC hH fl_X11_12_11 (hL _ mX0) sX0 rfl dX11_see_73 ?_
              refine r_getc (z := 14) hC hH fl_X11_210_2 (hL _ mX10) sX10 rfl dX11_see_76 ?_
              refine lv_iload hC.x hC.b dX11_see_79 (lv_at hl 0 rfl) ?_
              refine lv_iload_n hC.x hC.b dX11_see_81 rfl (lv_at hl 3 rfl) ?_
              refine r_iast hC hF hH (hL _ mX14) sX14 h dX11_see_82 (fun m4 H locs h hH => ?_)
              refine lv_aload_n hC.x hC.b dX11_see_83 rfl (lv_at hl 1 rfl) ?_
              refine r_getc (z := 10) hC hH fl_X11_12_11 (hL _ mX0) sX0 rfl dX11_see_84 ?_
              refine r_getc (z := 15) hC hH fl_X11_213_2 (hL _ mX10) sX10 rfl dX11_see_87 ?_
              refine lv_iload hC.x hC.b dX11_see_90 (lv_at hl 0 rfl) ?_
              refine lv_iload_n hC.x hC.b dX11_see_92 rfl (lv_at hl 4 rfl) ?_
              obtain ⟨j5, ej5, h⟩ := jn_e h
              have hj5 : ∀ (x6 : Int32) (H : Heap) (locs : List Loc) (ls : Array Slot), (j5 x6) = some (rv, memz) → gH D cy shX ad L (gA ad L) s.heap m4 H locs → lv_has ls 5 [(0, .ref (ad 0)), (4, .int x2)] → W p l e R s m args below meth c H locs 0 0 Q (F0 m 101 ls [.int x6, .int x2, .ref (ad 15)]) := by
                intro x6 H locs ls h hH hl
                have h := ap1 ej5 h
                refine r_iast hC hF hH (hL _ mX15) sX15 h dX11_see_101 (fun m7 H locs h hH => ?_)
                refine lv_aload_n hC.x hC.b dX11_see_102 rfl (lv_at hl 0 rfl) ?_
                refine r_getc (z := 10) hC hH fl_X11_12_11 (hL _ mX0) sX0 rfl dX11_see_103 ?_
                refine lv_iload hC.x hC.b dX11_see_106 (lv_at hl 1 rfl) ?_
                refine lv_iconst (v := 1) hC.x hC.b dX11_see_108 rfl ?_
                refine lv_iadd hC.x hC.b dX11_see_109 ?_
                refine r_puti hC hF hH pl_X11_204_2 (hL _ mX10) sX10 rfl h dX11_see_110 (fun m8 H locs h hH => ?_)
                refine lv_aload_n hC.x hC.b dX11_see_113 rfl (lv_at hl 0 rfl) ?_
                refine r_getc (z := 10) hC hH fl_X11_12_11 (hL _ mX0) sX0 rfl dX11_see_114 ?_
                refine r_geti hC hH fl_X11_204_2 (hL _ mX10) sX10 rfl dX11_see_117 ?_
                rw [hQ]
                exact e_i hC hr hH h dX11_see_120
              clear ej5
              refine b_if_eq (tgt := 100) hC dX11_see_93 (by decide) h (fun h => ?_) (fun h => ?_)
              · refine lv_iconst (v := 0) hC.x hC.b dX11_see_100 rfl ?_
                exact hj5 (0 : Int32) H locs ls h hH (lv_sub hl [1, 0] rfl)
              · refine lv_iconst (v := 1) hC.x hC.b dX11_see_96 rfl ?_
                refine lv_goto (tgt := 101) hC.x hC.b dX11_see_97 (by decide) ?_
                exact hj5 (1 : Int32) H locs ls h hH (lv_sub hl [1, 0] rfl)
            · refine lv_bipush (v := -4) hC.x hC.b dX11_see_58 rfl ?_
              rw [hQ]
              exact e_i hC hr hH h dX11_see_60
        · refine lv_bipush (v := -2) hC.x hC.b dX11_see_34 rfl ?_
          rw [hQ]
          exact e_i hC hr hH h dX11_see_36
    · refine lv_iconst (v := -1) hC.x hC.b dX11_see_22 rfl ?_
      rw [hQ]
      exact e_i hC hr hH h dX11_see_23
  · refine lv_aload_n hC.x hC.b dX11_see_5 rfl (lv_at hl 0 rfl) ?_
    refine r_getc (z := 10) hC hH fl_X11_12_11 (hL _ mX0) sX0 rfl dX11_see_6 ?_
    refine lv_iconst (v := 0) hC.x hC.b dX11_see_9 rfl ?_
    refine r_puti hC hF hH pl_X11_204_2 (hL _ mX10) sX10 rfl h dX11_see_10 (fun m9 H locs h hH => ?_)
    refine lv_iconst (v := 0) hC.x hC.b dX11_see_13 rfl ?_
    rw [hQ]
    exact e_i hC hr hH h dX11_see_14

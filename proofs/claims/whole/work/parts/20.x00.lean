def f_J9_floorMod_7cf53 (p0 : Int32) (p1 : Int32) : Option Int32 := if ¬ p1 = 0 then lt1 (p0 - p0 / p1 * p1) fun (x1 : Int32) => if 0 ≤ (p0 ^^^ p1) then (some x1) else if x1 = 0 then (some x1) else some (x1 + p1) else none
set_option maxRecDepth 100000 in
set_option maxHeartbeats 4000000 in
theorem c_J9_floorMod_7cf53 {l : Launch} {E : State → Prop} {D : va_G} {cy : Nat → ClassId} {ad : Nat → Nat} {L : List Nat} {mem : gMem} {p0 : Int32} {p1 : Int32} {rv : Int32} (hk : gOk ad L) (hL : ∀ o ∈ LX0, o ∈ L) (hE : gEok ad L E)  (h : f_J9_floorMod_7cf53 p0 p1 = some rv) : gMet l yJ9_floorMod_7cf53 cJ9_floorMod_7cf53 3 (some .int) 0 0 E D cy shX ad L [.int p0, .int p1] mem mem (some (.int rv)) := by
  refine g_go (own := RJ9) (by decide +kernel) rfl hE (Nat.le_of_ble_eq_true rfl) ?_
  intro p e s m args below meth c R Q hargs hR hQ hEs hC hr hX H locs ls hH hl
  have hF := gF_of hk
  have hl : lv_has ls 3 [(0, .int p0), (1, .int p1)] := hl
  refine lv_iload_n hC.x hC.b dJ9_floorMod_7cf53_0 rfl (lv_at hl 0 rfl) ?_
  refine lv_iload_n hC.x hC.b dJ9_floorMod_7cf53_1 rfl (lv_at hl 1 rfl) ?_
  refine r_irem hC dJ9_floorMod_7cf53_2 h (fun h => ?_)
  refine n_i h (fun x1 h => ?_)
  refine lv_istore_n (lv' := [(2, .int x1), (0, .int p0), (1, .int p1)]) hC.x hC.b dJ9_floorMod_7cf53_3 rfl hl (by decide) rfl (fun ls hl => ?_)
  refine lv_iload_n hC.x hC.b dJ9_floorMod_7cf53_4 rfl (lv_at hl 1 rfl) ?_
  refine lv_iload_n hC.x hC.b dJ9_floorMod_7cf53_5 rfl (lv_at hl 2 rfl) ?_
  refine lv_ixor hC.x hC.b dJ9_floorMod_7cf53_6 ?_
  refine b_if_ge (tgt := 18) hC dJ9_floorMod_7cf53_7 (by decide) h (fun h => ?_) (fun h => ?_)
  · refine lv_iload_n hC.x hC.b dJ9_floorMod_7cf53_18 rfl (lv_at hl 0 rfl) ?_
    rw [hQ]
    exact e_ir hC hr hH h dJ9_floorMod_7cf53_19
  · refine lv_iload_n hC.x hC.b dJ9_floorMod_7cf53_10 rfl (lv_at hl 0 rfl) ?_
    refine b_if_eq (tgt := 18) hC dJ9_floorMod_7cf53_11 (by decide) h (fun h => ?_) (fun h => ?_)
    · refine lv_iload_n hC.x hC.b dJ9_floorMod_7cf53_18 rfl (lv_at hl 0 rfl) ?_
      rw [hQ]
      exact e_ir hC hr hH h dJ9_floorMod_7cf53_19
    · refine lv_iload_n hC.x hC.b dJ9_floorMod_7cf53_14 rfl (lv_at hl 0 rfl) ?_
      refine lv_iload_n hC.x hC.b dJ9_floorMod_7cf53_15 rfl (lv_at hl 2 rfl) ?_
      refine lv_iadd hC.x hC.b dJ9_floorMod_7cf53_16 ?_
      rw [hQ]
      exact e_ir hC hr hH h dJ9_floorMod_7cf53_17
def f_J0_coder_7d493 (i0 : Nat) : Option Int32 := some (0 : Int32)
set_option maxRecDepth 100000 in
set_option maxHeartbeats 4000000 in
theorem c_J0_coder_7d493 {l : Launch} {E : State → Prop} {D : va_G} {cy : Nat → ClassId} {ad : Nat → Nat} {L : List Nat} {adK adV : Nat → Nat} {mem : gMem} {i0 : Nat} {rv : Int32} (hk : gOk ad L) (hL : ∀ o ∈ LX0, o ∈ L) (hE : gEok ad L E) (hSs : ∀ s : State, E s → gS (gA ad L) adK adV s) (hi0 : i0 < 5) (h : f_J0_coder_7d493 i0 = some rv) : gMet l yJ0_coder_7d493 cJ0_coder_7d493 1 (some .byte) 0 0 E D cy shX ad L [.ref (adK i0)] mem mem (some (.int rv)) := by
  refine g_go (own := RJ0) (by decide +kernel) rfl hE (Nat.le_of_ble_eq_true rfl) ?_
  intro p e s m args below meth c R Q hargs hR hQ hEs hC hr hX H locs ls hH hl
  have hF := gF_of hk
  have hl : lv_has ls 1 [(0, .ref (adK i0))] := hl
  refine s_cmp hC (hSs _ hEs) hH kw487 dJ0_coder_7d493_0 ?_
  refine lv_if_eq (tgt := 13) hC.x hC.b dJ0_coder_7d493_3 (by decide) (fun hz => absurd hz (by decide)) (fun _ => ?_)
  refine lv_aload_n hC.x hC.b dJ0_coder_7d493_6 rfl (lv_at hl 0 rfl) ?_
  refine s_cod hC (hSs _ hEs) hH hi0 kw488 dJ0_coder_7d493_7 ?_
  refine lv_goto (tgt := 14) hC.x hC.b dJ0_coder_7d493_10 (by decide) ?_
  rw [hQ]
  exact e_nr hC hr rfl hH h dJ0_coder_7d493_14
def f_J0_isLatin1_aae02 (i0 : Nat) : Option Int32 := some (1 : Int32)
set_option maxRecDepth 100000 in
set_option maxHeartbeats 4000000 in
theorem c_J0_isLatin1_aae02 {l : Launch} {E : State → Prop} {D : va_G} {cy : Nat → ClassId} {ad : Nat → Nat} {L : List Nat} {adK adV : Nat → Nat} {mem : gMem} {i0 : Nat} {rv : Int32} (hk : gOk ad L) (hL : ∀ o ∈ LX0, o ∈ L) (hE : gEok ad L E) (hSs : ∀ s : State, E s → gS (gA ad L) adK adV s) (hi0 : i0 < 5) (h : f_J0_isLatin1_aae02 i0 = some rv) : gMet l yJ0_isLatin1_aae02 cJ0_isLatin1_aae02 1 (some .boolean) 0 0 E D cy shX ad L [.ref (adK i0)] mem mem (some (.int rv)) := by
  refine g_go (own := RJ0) (by decide +kernel) rfl hE (Nat.le_of_ble_eq_true rfl) ?_
  intro p e s m args below meth c R Q hargs hR hQ hEs hC hr hX H locs ls hH hl
  have hF := gF_of hk
  have hl : lv_has ls 1 [(0, .ref (adK i0))] := hl
  refine s_cmp hC (hSs _ hEs) hH kw487 dJ0_isLatin1_aae02_0 ?_
  refine lv_if_eq (tgt := 17) hC.x hC.b dJ0_isLatin1_aae02_3 (by decide) (fun hz => absurd hz (by decide)) (fun _ => ?_)
  refine lv_aload_n hC.x hC.b dJ0_isLatin1_aae02_6 rfl (lv_at hl 0 rfl) ?_
  refine s_cod hC (hSs _ hEs) hH hi0 kw488 dJ0_isLatin1_aae02_7 ?_
  refine lv_if_ne (tgt := 17) hC.x hC.b dJ0_isLatin1_aae02_10 (by decide) (fun hz => absurd hz (by decide)) (fun _ => ?_)
  refine lv_iconst (v := 1) hC.x hC.b dJ0_isLatin1_aae02_13 rfl ?_
  refine lv_goto (tgt := 18) hC.x hC.b dJ0_isLatin1_aae02_14 (by decide) ?_
  rw [hQ]
  exact e_nr hC hr rfl hH h dJ0_isLatin1_aae02_18
def f_J1_canEncode_9a6ad (p0 : Int32) : Option Int32 := if p0 < 0 then (some (0 : Int32)) else if (255 : Int32) < p0 then (some (0 : Int32)) else some (1 : Int32)
set_option maxRecDepth 100000 in
set_option maxHeartbeats 4000000 in
theorem c_J1_canEncode_9a6ad {l : Launch} {E : State → Prop} {D : va_G} {cy : Nat → ClassId} {ad : Nat → Nat} {L : List Nat} {mem : gMem} {p0 : Int32} {rv : Int32} (hk : gOk ad L) (hL : ∀ o ∈ LX0, o ∈ L) (hE : gEok ad L E)  (h : f_J1_canEncode_9a6ad p0 = some rv) : gMet l yJ1_canEncode_9a6ad cJ1_canEncode_9a6ad 1 (some .boolean) 0 0 E D cy shX ad L [.int p0] mem mem (some (.int rv)) := by
  refine g_go (own := RJ1) (by decide +kernel) rfl hE (Nat.le_of_ble_eq_true rfl) ?_
  intro p e s m args below meth c R Q hargs hR hQ hEs hC hr hX H locs ls hH hl
  have hF := gF_of hk
  have hl : lv_has ls 1 [(0, .int p0)] := hl
  refine lv_iload_n hC.x hC.b dJ1_canEncode_9a6ad_0 rfl (lv_at hl 0 rfl) ?_
  refine b_if_lt (tgt := 15) hC dJ1_canEncode_9a6ad_1 (by decide) h (fun h => ?_) (fun h => ?_)
  · refine lv_iconst (v := 0) hC.x hC.b dJ1_canEncode_9a6ad_15 rfl ?_
    rw [hQ]
    exact e_nr hC hr rfl hH h dJ1_canEncode_9a6ad_16
  · refine lv_iload_n hC.x hC.b dJ1_canEncode_9a6ad_4 rfl (lv_at hl 0 rfl) ?_
    refine lv_sipush (v := 255) hC.x hC.b dJ1_canEncode_9a6ad_5 rfl ?_
    refine b_ic_gt (tgt := 15) hC dJ1_canEncode_9a6ad_8 (by decide) h (fun h => ?_) (fun h => ?_)
    · refine lv_iconst (v := 0) hC.x hC.b dJ1_canEncode_9a6ad_15 rfl ?_
      rw [hQ]
      exact e_nr hC hr rfl hH h dJ1_canEncode_9a6ad_16
    · refine lv_iconst (v := 1) hC.x hC.b dJ1_canEncode_9a6ad_11 rfl ?_
      refine lv_goto (tgt := 16) hC.x hC.b dJ1_canEncode_9a6ad_12 (by decide) ?_
      rw [hQ]
      exact e_nr hC hr rfl hH h dJ1_canEncode_9a6ad_16
def s_J1_indexOfChar_4cfef_7 (p3 : Int32) (i0 : Nat) (x1 : Int32) (self2 : Int32 → Option Int32) (x3 : Int32) : Option Int32 := if p3 ≤ x3 then (some (-1 : Int32)) else if okI x3 (lenJ.getD i0 0) then if ((bytJ.getD i0 []).getD (ix x3) 0) = x1 then (some x3) else lt1 (x3 + (1 : Int32)) fun (x4 : Int32) => (self2 x4) else none
def f_J1_indexOfChar_4cfef (i0 : Nat) (p1 : Int32) (p2 : Int32) (p3 : Int32) : Option Int32 := lt1 (p1.toInt8.toInt32) fun (x1 : Int32) => lq1 (s_J1_indexOfChar_4cfef_7 p3 i0 x1) 1000 p2
set_option maxRecDepth 100000 in
set_option maxHeartbeats 4000000 in
theorem c_J1_indexOfChar_4cfef {l : Launch} {E : State → Prop} {D : va_G} {cy : Nat → ClassId} {ad : Nat → Nat} {L : List Nat} {adK adV : Nat → Nat} {mem : gMem} {i0 : Nat} {p1 : Int32} {p2 : Int32} {p3 : Int32} {rv : Int32} (hk : gOk ad L) (hL : ∀ o ∈ LX0, o ∈ L) (hE : gEok ad L E) (hSs : ∀ s : State, E s → gS (gA ad L) adK adV s) (hi0 : i0 < 5) (h : f_J1_indexOfChar_4cfef i0 p1 p2 p3 = some rv) : gMet l yJ1_indexOfChar_4cfef cJ1_indexOfChar_4cfef 6 (some .int) 0 0 E D cy shX ad L [.ref (adV i0), .int p1, .int p2, .int p3] mem mem (some (.int rv)) := by
  refine g_go (own := RJ1) (by decide +kernel) rfl hE (Nat.le_of_ble_eq_true rfl) ?_
  intro p e s m args below meth c R Q hargs hR hQ hEs hC hr hX H locs ls hH hl
  have hF := gF_of hk
  have hl : lv_has ls 6 [(0, .ref (adV i0)), (1, .int p1), (2, .int p2), (3, .int p3)] := hl
  refine lv_iload_n hC.x hC.b dJ1_indexOfChar_4cfef_0 rfl (lv_at hl 1 rfl) ?_
  refine lv_i2b hC.x hC.b dJ1_indexOfChar_4cfef_1 rfl ?_
  refine n_i h (fun x1 h => ?_)
  refine lv_istore (lv' := [(4, .int x1), (0, .ref (adV i0)), (1, .int p1), (2, .int p2), (3, .int p3)]) hC.x hC.b dJ1_indexOfChar_4cfef_2 hl (by decide) rfl (fun ls hl => ?_)
  refine lv_iload_n hC.x hC.b dJ1_indexOfChar_4cfef_4 rfl (lv_at hl 3 rfl) ?_
  refine lv_istore (lv' := [(5, .int p2), (4, .int x1), (0, .ref (adV i0)), (1, .int p1), (2, .int p2), (3, .int p3)]) hC.x hC.b dJ1_indexOfChar_4cfef_5 hl (by decide) rfl (fun ls hl => ?_)
  have hl2 : ∀ (n : Nat) (x3 : Int32) (H : Heap) (locs : List Loc) (ls : Array Slot), lq1 (s_J1_indexOfChar_4cfef_7 p3 i0 x1) n x3 = some rv → gH D cy shX ad L (gA ad L) s.heap mem H locs → lv_has ls 6 [(0, .ref (adV i0)), (3, .int p3), (4, .int x1), (5, .int x3)] → W p l e R s m args below meth c H locs 0 0 Q (F0 m 7 ls []) := by
    intro n
    induction n with
    | zero => intro x3 H locs ls h _ _; exact lq1_0 h
    | succ n ih2 =>
      intro x3 H locs ls h hH hl
      obtain ⟨self2, es2, h⟩ := lq1_s h
      refine lv_iload hC.x hC.b dJ1_indexOfChar_4cfef_7 (lv_at hl 3 rfl) ?_
      refine lv_iload_n hC.x hC.b dJ1_indexOfChar_4cfef_9 rfl (lv_at hl 1 rfl) ?_
      refine b_ic_ge (tgt := 31) hC dJ1_indexOfChar_4cfef_10 (by decide) h (fun h => ?_) (fun h => ?_)
      · refine lv_iconst (v := -1) hC.x hC.b dJ1_indexOfChar_4cfef_31 rfl ?_
        rw [hQ]
        exact e_ir hC hr hH h dJ1_indexOfChar_4cfef_32
      · refine lv_aload_n hC.x hC.b dJ1_indexOfChar_4cfef_13 rfl (lv_at hl 0 rfl) ?_
        refine lv_iload hC.x hC.b dJ1_indexOfChar_4cfef_14 (lv_at hl 3 rfl) ?_
        refine s_bld hC (hSs _ hEs) hH hi0 h dJ1_indexOfChar_4cfef_16 (fun h => ?_)
        refine lv_iload hC.x hC.b dJ1_indexOfChar_4cfef_17 (lv_at hl 2 rfl) ?_
        refine b_ic_ne (tgt := 25) hC dJ1_indexOfChar_4cfef_19 (by decide) h (fun h => ?_) (fun h => ?_)
        · refine i_inc (lv' := fun x4 => [(5, .int x4), (0, .ref (adV i0)), (3, .int p3), (4, .int x1)]) hC dJ1_indexOfChar_4cfef_25 hl (k := 3) rfl (by decide) (fun _ => rfl) (z := 1) rfl h (fun x4 ls h hl => ?_)
          refine lv_goto (tgt := 7) hC.x hC.b dJ1_indexOfChar_4cfef_28 (by decide) ?_
          exact ih2 x4 H locs ls (ap1 es2 h) hH (lv_sub hl [1, 2, 3, 0] rfl)
        · refine lv_iload hC.x hC.b dJ1_indexOfChar_4cfef_22 (lv_at hl 3 rfl) ?_
          rw [hQ]
          exact e_ir hC hr hH h dJ1_indexOfChar_4cfef_24
  exact hl2 _ p2 H locs ls h hH (lv_sub hl [2, 5, 1, 0] rfl)
def f_J3_checkIndex_8e157 (p0 : Int32) (p1 : Int32) : Option Int32 := jn ((none) : Option Int32) fun j1 => if p0 < 0 then (j1) else if p0 < p1 then (some p0) else j1
set_option maxRecDepth 100000 in
set_option maxHeartbeats 4000000 in
theorem c_J3_checkIndex_8e157 {l : Launch} {E : State → Prop} {D : va_G} {cy : Nat → ClassId} {ad : Nat → Nat} {L : List Nat} {mem : gMem} {p0 : Int32} {p1 : Int32} {z2 : Option Nat} {rv : Int32} (hk : gOk ad L) (hL : ∀ o ∈ LX0, o ∈ L) (hE : gEok ad L E)  (h : f_J3_checkIndex_8e157 p0 p1 = some rv) : gMet l yJ3_checkIndex_8e157 cJ3_checkIndex_8e157 3 (some .int) 0 0 E D cy shX ad L [.int p0, .int p1, va_rf z2] mem mem (some (.int rv)) := by
  refine g_go (own := RJ3) (by decide +kernel) rfl hE (by cases z2 <;> exact Nat.le_of_ble_eq_true rfl) ?_
  intro p e s m args below meth c R Q hargs hR hQ hEs hC hr hX H locs ls hH hl
  have hF := gF_of hk
  have hl : lv_has ls 3 [(0, .int p0), (1, .int p1), (2, va_rf z2)] := hl
  refine lv_iload_n hC.x hC.b dJ3_checkIndex_8e157_0 rfl (lv_at hl 0 rfl) ?_
  obtain ⟨j1, ej1, h⟩ := jn_e h
  have hj1 : ∀  (H : Heap) (locs : List Loc) (ls : Array Slot), j1 = some rv → gH D cy shX ad L (gA ad L) s.heap mem H locs → lv_has ls 3 [(0, .int p0), (1, .int p1), (2, va_rf z2)] → W p l e R s m args below meth c H locs 0 0 Q (F0 m 9 ls []) := by
    intro H locs ls h hH hl
    have h := ap0 ej1 h
    refine o_aldn hC dJ3_checkIndex_8e157_9 rfl (lv_at hl 2 rfl) ?_
    refine lv_iload_n hC.x hC.b dJ3_checkIndex_8e157_10 rfl (lv_at hl 0 rfl) ?_
    refine lv_iload_n hC.x hC.b dJ3_checkIndex_8e157_11 rfl (lv_at hl 1 rfl) ?_
    cases h
  clear ej1
  refine b_if_lt (tgt := 9) hC dJ3_checkIndex_8e157_1 (by decide) h (fun h => ?_) (fun h => ?_)
  · exact hj1  H locs ls h hH (lv_sub hl [0, 1, 2] rfl)
  · refine lv_iload_n hC.x hC.b dJ3_checkIndex_8e157_4 rfl (lv_at hl 0 rfl) ?_
    refine lv_iload_n hC.x hC.b dJ3_checkIndex_8e157_5 rfl (lv_at hl 1 rfl) ?_
    refine b_ic_lt (tgt := 16) hC dJ3_checkIndex_8e157_6 (by decide) h (fun h => ?_) (fun h => ?_)
    · refine lv_iload_n hC.x hC.b dJ3_checkIndex_8e157_16 rfl (lv_at hl 0 rfl) ?_
      rw [hQ]
      exact e_ir hC hr hH h dJ3_checkIndex_8e157_17
    · exact hj1  H locs ls h hH (lv_sub hl [0, 1, 2] rfl)
theorem fl_X11_12_11 : gFl RX11 12 11 0 := ⟨RX11, TX11, 13, "OnTiptoe", rfl, inW11, by decide, kw16, Or.inl rfl⟩
theorem fl_X11_103_2 : gFl RX11 103 2 4 := ⟨RX2, TX2, 17, "OnTiptoe$House", rfl, inW2, by decide, kw266, Or.inl rfl⟩
theorem pl_X11_103_2 : gPl RX11 103 2 4 "I" := ⟨RX2, TX2, 17, tyX2, "OnTiptoe$House", rfl, inW2, tyX2_ok, nmX2, by decide, kw266, Or.inl rfl, rfl, rfl⟩
theorem fl_X11_133_2 : gFl RX11 133 2 5 := ⟨RX2, TX2, 17, "OnTiptoe$House", rfl, inW2, by decide, kw693, Or.inl rfl⟩
theorem pl_X11_133_2 : gPl RX11 133 2 5 "I" := ⟨RX2, TX2, 17, tyX2, "OnTiptoe$House", rfl, inW2, tyX2_ok, nmX2, by decide, kw693, Or.inl rfl, rfl, rfl⟩
def f_X11_still (L : List Nat) (mem : gMem) (p0 : Int32) : Option (Int32 × gMem) := if p0 < 0 then (some ((-2 : Int32), mem)) else if p0 ≤ (30 : Int32) then (if (gI mem 10 4) ≤ (9960 : Int32) then (lt1 (gsI mem 10 4 ((gI mem 10 4) + p0)) fun (m1 : gMem) => lt1 (gsI m1 10 5 (if (0 : Int32) < ((gI m1 10 5) - p0) then ((gI m1 10 5) - p0) else (0 : Int32))) fun (m2 : gMem) => some ((gI m2 10 4), m2)) else some ((-3 : Int32), mem)) else some ((-2 : Int32), mem)
set_option maxRecDepth 100000 in
set_option maxHeartbeats 4000000 in
theorem c_X11_still {l : Launch} {E : State → Prop} {D : va_G} {cy : Nat → ClassId} {ad : Nat → Nat} {L : List Nat} {mem : gMem} {p0 : Int32} {rv : Int32} {memz : gMem} (hk : gOk ad L) (hL : ∀ o ∈ LX0, o ∈ L) (hE : gEok ad L E)  (h : f_X11_still L mem p0 = some (rv, memz)) : gMet l yX11_still cX11_still 2 (some .int) 1 21 E D cy shX ad L [.ref (ad 0), .int p0] mem memz (some (.int rv)) := by
  refine g_go (own := RX11) (by decide +kernel) rfl hE (Nat.le_of_ble_eq_true rfl) ?_
  intro p e s m args below meth c R Q hargs hR hQ hEs hC hr hX H locs ls hH hl
  have hF := gF_of hk
  have hl : lv_has ls 2 [(0, .ref (ad 0)), (1, .int p0)] := hl
  refine lv_iload_n hC.x hC.b dX11_still_0 rfl (lv_at hl 1 rfl) ?_
  refine b_if_lt (tgt := 10) hC dX11_still_1 (by decide) h (fun h => ?_) (fun h => ?_)
  · refine lv_bipush (v := -2) hC.x hC.b dX11_still_10 rfl ?_
    rw [hQ]
    exact e_i hC hr hH h dX11_still_12
  · refine lv_iload_n hC.x hC.b dX11_still_4 rfl (lv_at hl 1 rfl) ?_
    refine lv_bipush (v := 30) hC.x hC.b dX11_still_5 rfl ?_
    refine b_ic_le (tgt := 13) hC dX11_still_7 (by decide) h (fun h => ?_) (fun h => ?_)
    · refine lv_aload_n hC.x hC.b dX11_still_13 rfl (lv_at hl 0 rfl) ?_
      refine r_getc (z := 10) hC hH fl_X11_12_11 (hL _ mX0) sX0 rfl dX11_still_14 ?_
      refine r_geti hC hH fl_X11_103_2 (hL _ mX10) sX10 rfl dX11_still_17 ?_
      refine lv_sipush (v := 9960) hC.x hC.b dX11_still_20 rfl ?_
      refine b_ic_le (tgt := 29) hC dX11_still_23 (by decide) h (fun h => ?_) (fun h => ?_)
      · refine lv_aload_n hC.x hC.b dX11_still_29 rfl (lv_at hl 0 rfl) ?_
        refine r_getc (z := 10) hC hH fl_X11_12_11 (hL _ mX0) sX0 rfl dX11_still_30 ?_
        refine lv_dup hC.x hC.b dX11_still_33 rfl ?_
        refine r_geti hC hH fl_X11_103_2 (hL _ mX10) sX10 rfl dX11_still_34 ?_
        refine lv_iload_n hC.x hC.b dX11_still_37 rfl (lv_at hl 1 rfl) ?_
        refine lv_iadd hC.x hC.b dX11_still_38 ?_
        refine r_puti hC hF hH pl_X11_103_2 (hL _ mX10) sX10 rfl h dX11_still_39 (fun m1 H locs h hH => ?_)
        refine lv_aload_n hC.x hC.b dX11_still_42 rfl (lv_at hl 0 rfl) ?_
        refine r_getc (z := 10) hC hH fl_X11_12_11 (hL _ mX0) sX0 rfl dX11_still_43 ?_
        refine lv_iconst (v := 0) hC.x hC.b dX11_still_46 rfl ?_
        refine lv_aload_n hC.x hC.b dX11_still_47 rfl (lv_at hl 0 rfl) ?_
        refine r_getc (z := 10) hC hH fl_X11_12_11 (hL _ mX0) sX0 rfl dX11_still_48 ?_
        refine r_geti hC hH fl_X11_133_2 (hL _ mX10) sX10 rfl dX11_still_51 ?_
        refine lv_iload_n hC.x hC.b dX11_still_54 rfl (lv_at hl 1 rfl) ?_
        refine lv_isub hC.x hC.b dX11_still_55 ?_
        refine m_max hC hl.1 kw767 kw309 kw310 kw311 (rmM hR (by decide) (Nat.le_of_ble_eq_true rfl)) dX11_still_56 ?_
        refine r_puti hC hF hH pl_X11_133_2 (hL _ mX10) sX10 rfl h dX11_still_59 (fun m2 H locs h hH => ?_)
        refine lv_aload_n hC.x hC.b dX11_still_62 rfl (lv_at hl 0 rfl) ?_
        refine r_getc (z := 10) hC hH fl_X11_12_11 (hL _ mX0) sX0 rfl dX11_still_63 ?_
        refine r_geti hC hH fl_X11_103_2 (hL _ mX10) sX10 rfl dX11_still_66 ?_
        rw [hQ]
        exact e_i hC hr hH h dX11_still_69
      · refine lv_bipush (v := -3) hC.x hC.b dX11_still_26 rfl ?_
        rw [hQ]
        exact e_i hC hr hH h dX11_still_28
    · refine lv_bipush (v := -2) hC.x hC.b dX11_still_10 rfl ?_
      rw [hQ]
      exact e_i hC hr hH h dX11_still_12
theorem fl_X11_136_2 : gFl RX11 136 2 6 := ⟨RX2, TX2, 17, "OnTiptoe$House", rfl, inW2, by decide, kw694, Or.inl rfl⟩
theorem pl_X11_136_2 : gPl RX11 136 2 6 "Z" := ⟨RX2, TX2, 17, tyX2, "OnTiptoe$House", rfl, inW2, tyX2_ok, nmX2, by decide, kw694, Or.inl rfl, rfl, rfl⟩
def f_X11_lull (L : List Nat) (mem : gMem) : Option (Int32 × gMem) := jn ((fun (x2 : Int32) => if isB (0 : Int32) then lt1 (gsI mem 10 6 (0 : Int32)) fun (m3 : gMem) => lt1 (gsI m3 10 5 (0 : Int32)) fun (m4 : gMem) => some (x2, m4) else none) : Int32 → Option (Int32 × gMem)) fun j1 => if (gI mem 10 6) = 0 then ((j1 (0 : Int32))) else (j1 (1 : Int32))
set_option maxRecDepth 100000 in
set_option maxHeartbeats 4000000 in
theorem c_X11_lull {l : Launch} {E : State → Prop} {D : va_G} {cy : Nat → ClassId} {ad : Nat → Nat} {L : List Nat} {mem : gMem} {rv : Int32} {memz : gMem} (hk : gOk ad L) (hL : ∀ o ∈ LX0, o ∈ L) (hE : gEok ad L E)  (h : f_X11_lull L mem = some (rv, memz)) : gMet l yX11_lull cX11_lull 2 (some .int) 0 0 E D cy shX ad L [.ref (ad 0)] mem memz (some (.int rv)) := by
  refine g_go (own := RX11) (by decide +kernel) rfl hE (Nat.le_of_ble_eq_true rfl) ?_
  intro p e s m args below meth c R Q hargs hR hQ hEs hC hr hX H locs ls hH hl
  have hF := gF_of hk
  have hl : lv_has ls 2 [(0, .ref (ad 0))] := hl
  refine lv_aload_n hC.x hC.b dX11_lull_0 rfl (lv_at hl 0 rfl) ?_
  refine r_getc (z := 10) hC hH fl_X11_12_11 (hL _ mX0) sX0 rfl dX11_lull_1 ?_
  refine r_geti hC hH fl_X11_136_2 (hL _ mX10) sX10 rfl dX11_lull_4 ?_
  obtain ⟨j1, ej1, h⟩ := jn_e h
  have hj1 : ∀ (x2 : Int32) (H : Heap) (locs : List Loc) (ls : Array Slot), (j1 x2) = some (rv, memz) → gH D cy shX ad L (gA ad L) s.heap mem H locs → lv_has ls 2 [(0, .ref (ad 0))] → W p l e R s m args below meth c H locs 0 0 Q (F0 m 15 ls [.int x2]) := by
    intro x2 H locs ls h hH hl
    have h := ap1 ej1 h
    refine lv_istore_n (lv' := [(1, .int x2), (0, .ref (ad 0))]) hC.x hC.b dX11_lull_15 rfl hl (by decide) rfl (fun ls hl => ?_)
    refine lv_aload_n hC.x hC.b dX11_lull_16 rfl (lv_at hl 1 rfl) ?_
    refine r_getc (z := 10) hC hH fl_X11_12_11 (hL _ mX0) sX0 rfl dX11_lull_17 ?_
    refine lv_iconst (v := 0) hC.x hC.b dX11_lull_20 rfl ?_
    refine r_putz hC hF hH pl_X11_136_2 (hL _ mX10) sX10 rfl h dX11_lull_21 (fun m3 H locs h hH => ?_)
    refine lv_aload_n hC.x hC.b dX11_lull_24 rfl (lv_at hl 1 rfl) ?_
    refine r_getc (z := 10) hC hH fl_X11_12_11 (hL _ mX0) sX0 rfl dX11_lull_25 ?_
    refine lv_iconst (v := 0) hC.x hC.b dX11_lull_28 rfl ?_
    refine r_puti hC hF hH pl_X11_133_2 (hL _ mX10) sX10 rfl h dX11_lull_29 (fun m4 H locs h hH => ?_)
    refine lv_iload_n hC.x hC.b dX11_lull_32 rfl (lv_at hl 0 rfl) ?_
    rw [hQ]
    exact e_i hC hr hH h dX11_lull_33
  clear ej1
  refine b_if_eq (tgt := 14) hC dX11_lull_7 (by decide) h (fun h => ?_) (fun h => ?_)
  · refine lv_iconst (v := 0) hC.x hC.b dX11_lull_14 rfl ?_
    exact hj1 (0 : Int32) H locs ls h hH (lv_sub hl [0] rfl)
  · refine lv_iconst (v := 1) hC.x hC.b dX11_lull_10 rfl ?_
    refine lv_goto (tgt := 15) hC.x hC.b dX11_lull_11 (by decide) ?_
    exact hj1 (1 : Int32) H locs ls h hH (lv_sub hl [0] rfl)
theorem fl_X11_226_2 : gFl RX11 226 2 14 := ⟨RX2, TX2, 17, "OnTiptoe$House", rfl, inW2, by decide, kw1027, Or.inl rfl⟩
theorem fl_X11_229_2 : gFl RX11 229 2 13 := ⟨RX2, TX2, 17, "OnTiptoe$House", rfl, inW2, by decide, kw1028, Or.inl rfl⟩
theorem pl_X11_226_2 : gPl RX11 226 2 14 "I" := ⟨RX2, TX2, 17, tyX2, "OnTiptoe$House", rfl, inW2, tyX2_ok, nmX2, by decide, kw1027, Or.inl rfl, rfl, rfl⟩
def f_X11_book (L : List Nat) (mem : gMem) (p0 : Int32) : Option (Int32 × gMem) := if p0 = (-1 : Int32) then (lt1 (gsI mem 10 14 (0 : Int32)) fun (m3 : gMem) => some ((0 : Int32), m3)) else if p0 < 0 then (some ((-2 : Int32), mem)) else if p0 ≤ (999 : Int32) then (if (gI mem 10 14) < 0 then (some ((-4 : Int32), mem)) else if (gI mem 10 14) < (12 : Int32) then (if okI (gI mem 10 14) 12 then lt1 (gsI mem 16 (ix (gI mem 10 14)) p0) fun (m1 : gMem) => lt1 (gsI m1 10 14 ((gI m1 10 14) + (1 : Int32))) fun (m2 : gMem) => some ((gI m2 10 14), m2) else none) else some ((-4 : Int32), mem)) else some ((-2 : Int32), mem)
set_option maxRecDepth 100000 in
set_option maxHeartbeats 4000000 in
theorem c_X11_book {l : Launch} {E : State → Prop} {D : va_G} {cy : Nat → ClassId} {ad : Nat → Nat} {L : List Nat} {mem : gMem} {p0 : Int32} {rv : Int32} {memz : gMem} (hk : gOk ad L) (hL : ∀ o ∈ LX0, o ∈ L) (hE : gEok ad L E)  (h : f_X11_book L mem p0 = some (rv, memz)) : gMet l yX11_book cX11_book 2 (some .int) 0 0 E D cy shX ad L [.ref (ad 0), .int p0] mem memz (some (.int rv)) := by
  refine g_go (own := RX11) (by decide +kernel) rfl hE (Nat.le_of_ble_eq_true rfl) ?_
  intro p e s m args below meth c R Q hargs hR hQ hEs hC hr hX H locs ls hH hl
  have hF := gF_of hk
  have hl : lv_has ls 2 [(0, .ref (ad 0)), (1, .int p0)] := hl
  refine lv_iload_n hC.x hC.b dX11_book_0 rfl (lv_at hl 1 rfl) ?_
  refine lv_iconst (v := -1) hC.x hC.b dX11_book_1 rfl ?_
  refine b_ic_ne (tgt := 15) hC dX11_book_2 (by decide) h (fun h => ?_) (fun h => ?_)
  · refine lv_iload_n hC.x hC.b dX11_book_15 rfl (lv_at hl 1 rfl) ?_
    refine b_if_lt (tgt := 26) hC dX11_book_16 (by decide) h (fun h => ?_) (fun h => ?_)
    · refine lv_bipush (v := -2) hC.x hC.b dX11_book_26 rfl ?_
      rw [hQ]
      exact e_i hC hr hH h dX11_book_28
    · refine lv_iload_n hC.x hC.b dX11_book_19 rfl (lv_at hl 1 rfl) ?_
      refine lv_sipush (v := 999) hC.x hC.b dX11_book_20 rfl ?_
      refine b_ic_le (tgt := 29) hC dX11_book_23 (by decide) h (fun h => ?_) (fun h => ?_)
      · refine lv_aload_n hC.x hC.b dX11_book_29 rfl (lv_at hl 0 rfl) ?_
        refine r_getc (z := 10) hC hH fl_X11_12_11 (hL _ mX0) sX0 rfl dX11_book_30 ?_
        refine r_geti hC hH fl_X11_226_2 (hL _ mX10) sX10 rfl dX11_book_33 ?_
        refine b_if_lt (tgt := 51) hC dX11_book_36 (by decide) h (fun h => ?_) (fun h => ?_)
        · refine lv_bipush (v := -4) hC.x hC.b dX11_book_51 rfl ?_
          rw [hQ]
          exact e_i hC hr hH h dX11_book_53
        · refine lv_aload_n hC.x hC.b dX11_book_39 rfl (lv_at hl 0 rfl) ?_
          refine r_getc (z := 10) hC hH fl_X11_12_11 (hL _ mX0) sX0 rfl dX11_book_40 ?_
          refine r_geti hC hH fl_X11_226_2 (hL _ mX10) sX10 rfl dX11_book_43 ?_
          refine lv_bipush (v := 12) hC.x hC.b dX11_book_46 rfl ?_
          refine b_ic_lt (tgt := 54) hC dX11_book_48 (by decide) h (fun h => ?_) (fun h => ?_)
          · refine lv_aload_n hC.x hC.b dX11_book_54 rfl (lv_at hl 0 rfl) ?_
            refine r_getc (z := 10) hC hH fl_X11_12_11 (hL _ mX0) sX0 rfl dX11_book_55 ?_
            refine r_getc (z := 16) hC hH fl_X11_229_2 (hL _ mX10) sX10 rfl dX11_book_58 ?_
            refine lv_aload_n hC.x hC.b dX11_book_61 rfl (lv_at hl 0 rfl) ?_
            refine r_getc (z := 10) hC hH fl_X11_12_11 (hL _ mX0) sX0 rfl dX11_book_62 ?_
            refine r_geti hC hH fl_X11_226_2 (hL _ mX10) sX10 rfl dX11_book_65 ?_
            refine lv_iload_n hC.x hC.b dX11_book_68 rfl (lv_at hl 1 rfl) ?_
            refine r_iast hC hF hH (hL _ mX16) sX16 h dX11_book_69 (fun m1 H locs h hH => ?_)
            refine lv_aload_n hC.x hC.b dX11_book_70 rfl (lv_at hl 0 rfl) ?_
            refine r_getc (z := 10) hC hH fl_X11_12_11 (hL _ mX0) sX0 rfl dX11_book_71 ?_
            refine lv_dup hC.x hC.b dX11_book_74 rfl ?_
            refine r_geti hC hH fl_X11_226_2 (hL _ mX10) sX10 rfl dX11_book_75 ?_
            refine lv_iconst (v := 1) hC.x hC.b dX11_book_78 rfl ?_
            refine lv_iadd hC.x hC.b dX11_book_79 ?_
            refine r_puti hC hF hH pl_X11_226_2 (hL _ mX10) sX10 rfl h dX11_book_80 (fun m2 H locs h hH => ?_)
            refine lv_aload_n hC.x hC.b dX11_book_83 rfl (lv_at hl 0 rfl) ?_
            refine r_getc (z := 10) hC hH fl_X11_12_11 (hL _ mX0) sX0 rfl dX11_book_84 ?_
            refine r_geti hC hH fl_X11_226_2 (hL _ mX10) sX10 rfl dX11_book_87 ?_
            rw [hQ]
            exact e_i hC hr hH h dX11_book_90
          · refine lv_bipush (v := -4) hC.x hC.b dX11_book_51 rfl ?_
            rw [hQ]
            exact e_i hC hr hH h dX11_book_53
      · refine lv_bipush (v := -2) hC.x hC.b dX11_book_26 rfl ?_
        rw [hQ]
        exact e_i hC hr hH h dX11_book_28
  · refine lv_aload_n hC.x hC.b dX11_book_5 rfl (lv_at hl 0 rfl) ?_
    refine r_getc (z := 10) hC hH fl_X11_12_11 (hL _ mX0) sX0 rfl dX11_book_6 ?_
    refine lv_iconst (v := 0) hC.x hC.b dX11_book_9 rfl ?_
    refine r_puti hC hF hH pl_X11_226_2 (hL _ mX10) sX10 rfl h dX11_book_10 (fun m3 H locs h hH => ?_)
    refine lv_iconst (v := 0) hC.x hC.b dX11_book_13 rfl ?_
    rw [hQ]
    exact e_i hC hr hH h dX11_book_14
theorem fl_X11_251_11 : gFl RX11 251 11 8 := ⟨RX11, TX11, 13, "OnTiptoe", rfl, inW11, by decide, kw1123, Or.inl rfl⟩
theorem fw_X11_255 : ∀ j, j < 7 → gFl RX11 255 (kci j) 5 := by
  intro j hj
  rcases (show j = 0 ∨ j = 1 ∨ j = 2 ∨ j = 3 ∨ j = 4 ∨ j = 5 ∨ j = 6 by omega) with rfl | rfl | rfl | rfl | rfl | rfl | rfl
  · exact ⟨RX9, TX9, 6, "OnTiptoe$Walker", rfl, inW9, by decide, kw1124, Or.inl rfl⟩
  · exact ⟨RX1, TX1, 6, "OnTiptoe$Walker", rfl, inW1, by decide, kw1124, Or.inl rfl⟩
  · exact ⟨RX6, TX6, 6, "OnTiptoe$Walker", rfl, inW6, by decide, kw1124, Or.inl rfl⟩
  · exact ⟨RX5, TX5, 6, "OnTiptoe$Walker", rfl, inW5, by decide, kw1124, Or.inl rfl⟩
  · exact ⟨RX7, TX7, 6, "OnTiptoe$Walker", rfl, inW7, by decide, kw1124, Or.inl rfl⟩
  · exact ⟨RX0, TX0, 6, "OnTiptoe$Walker", rfl, inW0, by decide, kw1124, Or.inl rfl⟩
  · exact ⟨RX8, TX8, 8, "OnTiptoe$Walker", rfl, inW8, by decide, kw1124, Or.inl rfl⟩
theorem fw_X11_267 : ∀ j, j < 7 → gFl RX11 267 (kci j) 4 := by
  intro j hj
  rcases (show j = 0 ∨ j = 1 ∨ j = 2 ∨ j = 3 ∨ j = 4 ∨ j = 5 ∨ j = 6 by omega) with rfl | rfl | rfl | rfl | rfl | rfl | rfl
  · exact ⟨RX9, TX9, 6, "OnTiptoe$Walker", rfl, inW9, by decide, kw1274, Or.inl rfl⟩
  · exact ⟨RX1, TX1, 6, "OnTiptoe$Walker", rfl, inW1, by decide, kw1274, Or.inl rfl⟩
  · exact ⟨RX6, TX6, 6, "OnTiptoe$Walker", rfl, inW6, by decide, kw1274, Or.inl rfl⟩
  · exact ⟨RX5, TX5, 6, "OnTiptoe$Walker", rfl, inW5, by decide, kw1274, Or.inl rfl⟩
  · exact ⟨RX7, TX7, 6, "OnTiptoe$Walker", rfl, inW7, by decide, kw1274, Or.inl rfl⟩
  · exact ⟨RX0, TX0, 6, "OnTiptoe$Walker", rfl, inW0, by decide, kw1274, Or.inl rfl⟩
  · exact ⟨RX8, TX8, 8, "OnTiptoe$Walker", rfl, inW8, by decide, kw1274, Or.inl rfl⟩
def f_X11_trace (L : List Nat) (mem : gMem) (p0 : Int32) : Option Int32 := oc (gR mem 0 8) (some (-1 : Int32)) fun w1 => if wok L w1 then if p0 < 0 then (some (-1 : Int32)) else if (gI mem w1 5) ≤ p0 then (some (-1 : Int32)) else if p0 < (20 : Int32) then (if okI p0 20 then some (gI mem (w1 + 1) (ix p0)) else none) else some (-1 : Int32) else none
set_option maxRecDepth 100000 in
set_option maxHeartbeats 4000000 in
theorem c_X11_trace {l : Launch} {E : State → Prop} {D : va_G} {cy : Nat → ClassId} {ad : Nat → Nat} {L : List Nat} {mem : gMem} {p0 : Int32} {rv : Int32} (hk : gOk ad L) (hL : ∀ o ∈ LX0, o ∈ L) (hE : gEok ad L E)  (h : f_X11_trace L mem p0 = some rv) : gMet l yX11_trace cX11_trace 2 (some .int) 0 0 E D cy shX ad L [.ref (ad 0), .int p0] mem mem (some (.int rv)) := by
  refine g_go (own := RX11) (by decide +kernel) rfl hE (Nat.le_of_ble_eq_true rfl) ?_
  intro p e s m args below meth c R Q hargs hR hQ hEs hC hr hX H locs ls hH hl
  have hF := gF_of hk
  have hl : lv_has ls 2 [(0, .ref (ad 0)), (1, .int p0)] := hl
  refine lv_aload_n hC.x hC.b dX11_trace_0 rfl (lv_at hl 0 rfl) ?_
  refine r_getr hC hH fl_X11_251_11 (hL _ mX0) sX0 rfl dX11_trace_1 ?_
  refine b_null (tgt := 28) hC dX11_trace_4 (by decide) h (fun ho h => ?_) (fun w1 hyw1 h => ?_)
  · refine lv_iconst (v := -1) hC.x hC.b dX11_trace_28 rfl ?_
    rw [hQ]
    exact e_ir hC hr hH h dX11_trace_29
  · obtain ⟨hww1, h⟩ := chk h
    refine lv_iload_n hC.x hC.b dX11_trace_7 rfl (lv_at hl 1 rfl) ?_
    refine b_if_lt (tgt := 28) hC dX11_trace_8 (by decide) h (fun h => ?_) (fun h => ?_)
    · refine lv_iconst (v := -1) hC.x hC.b dX11_trace_28 rfl ?_
      rw [hQ]
      exact e_ir hC hr hH h dX11_trace_29
    · refine lv_iload_n hC.x hC.b dX11_trace_11 rfl (lv_at hl 1 rfl) ?_
      refine lv_aload_n hC.x hC.b dX11_trace_12 rfl (lv_at hl 0 rfl) ?_
      refine r_getrS hC hH fl_X11_251_11 (hL _ mX0) sX0 rfl hyw1 dX11_trace_13 ?_
      refine r_geti hC hH (fw_X11_255 _ hww1.2.2.1) hww1.2.2.2.1 (sW0 hww1) rfl dX11_trace_16 ?_
      refine b_ic_ge (tgt := 28) hC dX11_trace_19 (by decide) h (fun h => ?_) (fun h => ?_)
      · refine lv_iconst (v := -1) hC.x hC.b dX11_trace_28 rfl ?_
        rw [hQ]
        exact e_ir hC hr hH h dX11_trace_29
      · refine lv_iload_n hC.x hC.b dX11_trace_22 rfl (lv_at hl 1 rfl) ?_
        refine lv_bipush (v := 20) hC.x hC.b dX11_trace_23 rfl ?_
        refine b_ic_lt (tgt := 30) hC dX11_trace_25 (by decide) h (fun h => ?_) (fun h => ?_)
        · refine lv_aload_n hC.x hC.b dX11_trace_30 rfl (lv_at hl 0 rfl) ?_
          refine r_getrS hC hH fl_X11_251_11 (hL _ mX0) sX0 rfl hyw1 dX11_trace_31 ?_
          refine r_getc (z := (w1 + 1)) hC hH (fw_X11_267 _ hww1.2.2.1) hww1.2.2.2.1 (sW0 hww1) rfl dX11_trace_34 ?_
          refine lv_iload_n hC.x hC.b dX11_trace_37 rfl (lv_at hl 1 rfl) ?_
          refine r_iald hC hH hww1.2.2.2.2.1 (sW1 hww1) h dX11_trace_38 (fun h => ?_)
          rw [hQ]
          exact e_ir hC hr hH h dX11_trace_39
        · refine lv_iconst (v := -1) hC.x hC.b dX11_trace_28 rfl ?_
          rw [hQ]
          exact e_ir hC hr hH h dX11_trace_29
theorem fl_X11_82_2 : gFl RX11 82 2 3 := ⟨RX2, TX2, 17, "OnTiptoe$House", rfl, inW2, by decide, kw198, Or.inl rfl⟩
theorem fl_X11_122_11 : gFl RX11 122 11 5 := ⟨RX11, TX11, 13, "OnTiptoe", rfl, inW11, by decide, kw452, Or.inl rfl⟩
theorem fl_X11_160_2 : gFl RX11 160 2 8 := ⟨RX2, TX2, 17, "OnTiptoe$House", rfl, inW2, by decide, kw784, Or.inl rfl⟩
theorem fl_X11_204_2 : gFl RX11 204 2 12 := ⟨RX2, TX2, 17, "OnTiptoe$House", rfl, inW2, by decide, kw970, Or.inl rfl⟩
theorem fl_X11_36_11 : gFl RX11 36 11 6 := ⟨RX11, TX11, 13, "OnTiptoe", rfl, inW11, by decide, kw25, Or.inl rfl⟩
theorem fl_X11_119_4 : gFl RX11 119 4 1 := ⟨RX4, TX4, 4, "OnTiptoe$Reader", rfl, inW4, by decide, kw438, Or.inl rfl⟩
def f_X11_count (L : List Nat) (mem : gMem) (p0 : Int32) : Option Int32 := if p0 = 0 then (some (gI mem 10 3)) else if p0 = 1 then (some (gI mem 0 5)) else if p0 = 2 then (some (gI mem 10 8)) else if p0 = 3 then (some (gI mem 10 12)) else if p0 = 4 then (some (gI mem 10 14)) else if p0 = 5 then (some (gI mem 30 1)) else if p0 = 6 then (oc (gR mem 0 8) (some (0 : Int32)) fun w1 => if wok L w1 then some (gI mem w1 5) else none) else some (-2 : Int32)
set_option maxRecDepth 100000 in
set_option maxHeartbeats 4000000 in
theorem c_X11_count {l : Launch} {E : State → Prop} {D : va_G} {cy : Nat → ClassId} {ad : Nat → Nat} {L : List Nat} {mem : gMem} {p0 : Int32} {rv : Int32} (hk : gOk ad L) (hL : ∀ o ∈ LX0, o ∈ L) (hE : gEok ad L E)  (h : f_X11_count L mem p0 = some rv) : gMet l yX11_count cX11_count 2 (some .int) 0 0 E D cy shX ad L [.ref (ad 0), .int p0] mem mem (some (.int rv)) := by
  refine g_go (own := RX11) (by decide +kernel) rfl hE (Nat.le_of_ble_eq_true rfl) ?_
  intro p e s m args below meth c R Q hargs hR hQ hEs hC hr hX H locs ls hH hl
  have hF := gF_of hk
  have hl : lv_has ls 2 [(0, .ref (ad 0)), (1, .int p0)] := hl
  refine lv_iload_n hC.x hC.b dX11_count_0 rfl (lv_at hl 1 rfl) ?_
  by_cases hx0 : p0 = 0
  · have h := ifp hx0 h
    refine lv_tableIn (off := 43) (tgt := 44) hC.x hC.b dX11_count_1 (by rw [hx0]; decide) (by rw [hx0]; decide) (by rw [hx0]; rfl) (by decide) ?_
    refine lv_aload_n hC.x hC.b dX11_count_44 rfl (lv_at hl 0 rfl) ?_
    refine r_getc (z := 10) hC hH fl_X11_12_11 (hL _ mX0) sX0 rfl dX11_count_45 ?_
    refine r_geti hC hH fl_X11_82_2 (hL _ mX10) sX10 rfl dX11_count_48 ?_
    rw [hQ]
    exact e_ir hC hr hH h dX11_count_51
  have h := ifn hx0 h
  by_cases hx1 : p0 = 1
  · have h := ifp hx1 h
    refine lv_tableIn (off := 51) (tgt := 52) hC.x hC.b dX11_count_1 (by rw [hx1]; decide) (by rw [hx1]; decide) (by rw [hx1]; rfl) (by decide) ?_
    refine lv_aload_n hC.x hC.b dX11_count_52 rfl (lv_at hl 0 rfl) ?_
    refine r_geti hC hH fl_X11_122_11 (hL _ mX0) sX0 rfl dX11_count_53 ?_
    rw [hQ]
    exact e_ir hC hr hH h dX11_count_56
  have h := ifn hx1 h
  by_cases hx2 : p0 = 2
  · have h := ifp hx2 h
    refine lv_tableIn (off := 56) (tgt := 57) hC.x hC.b dX11_count_1 (by rw [hx2]; decide) (by rw [hx2]; decide) (by rw [hx2]; rfl) (by decide) ?_
    refine lv_aload_n hC.x hC.b dX11_count_57 rfl (lv_at hl 0 rfl) ?_
    refine r_getc (z := 10) hC hH fl_X11_12_11 (hL _ mX0) sX0 rfl dX11_count_58 ?_
    refine r_geti hC hH fl_X11_160_2 (hL _ mX10) sX10 rfl dX11_count_61 ?_
    rw [hQ]
    exact e_ir hC hr hH h dX11_count_64
  have h := ifn hx2 h
  by_cases hx3 : p0 = 3
  · have h := ifp hx3 h
    refine lv_tableIn (off := 64) (tgt := 65) hC.x hC.b dX11_count_1 (by rw [hx3]; decide) (by rw [hx3]; decide) (by rw [hx3]; rfl) (by decide) ?_
    refine lv_aload_n hC.x hC.b dX11_count_65 rfl (lv_at hl 0 rfl) ?_
    refine r_getc (z := 10) hC hH fl_X11_12_11 (hL _ mX0) sX0 rfl dX11_count_66 ?_
    refine r_geti hC hH fl_X11_204_2 (hL _ mX10) sX10 rfl dX11_count_69 ?_
    rw [hQ]
    exact e_ir hC hr hH h dX11_count_72
  have h := ifn hx3 h
  by_cases hx4 : p0 = 4
  · have h := ifp hx4 h
    refine lv_tableIn (off := 72) (tgt := 73) hC.x hC.b dX11_count_1 (by rw [hx4]; decide) (by rw [hx4]; decide) (by rw [hx4]; rfl) (by decide) ?_
    refine lv_aload_n hC.x hC.b dX11_count_73 rfl (lv_at hl 0 rfl) ?_
    refine r_getc (z := 10) hC hH fl_X11_12_11 (hL _ mX0) sX0 rfl dX11_count_74 ?_
    refine r_geti hC hH fl_X11_226_2 (hL _ mX10) sX10 rfl dX11_count_77 ?_
    rw [hQ]
    exact e_ir hC hr hH h dX11_count_80
  have h := ifn hx4 h
  by_cases hx5 : p0 = 5
  · have h := ifp hx5 h
    refine lv_tableIn (off := 80) (tgt := 81) hC.x hC.b dX11_count_1 (by rw [hx5]; decide) (by rw [hx5]; decide) (by rw [hx5]; rfl) (by decide) ?_
    refine lv_aload_n hC.x hC.b dX11_count_81 rfl (lv_at hl 0 rfl) ?_
    refine r_getc (z := 30) hC hH fl_X11_36_11 (hL _ mX0) sX0 rfl dX11_count_82 ?_
    refine r_geti hC hH fl_X11_119_4 (hL _ mX30) sX30 rfl dX11_count_85 ?_
    rw [hQ]
    exact e_ir hC hr hH h dX11_count_88
  have h := ifn hx5 h
  by_cases hx6 : p0 = 6
  · have h := ifp hx6 h
    refine lv_tableIn (off := 88) (tgt := 89) hC.x hC.b dX11_count_1 (by rw [hx6]; decide) (by rw [hx6]; decide) (by rw [hx6]; rfl) (by decide) ?_
    refine lv_aload_n hC.x hC.b dX11_count_89 rfl (lv_at hl 0 rfl) ?_
    refine r_getr hC hH fl_X11_251_11 (hL _ mX0) sX0 rfl dX11_count_90 ?_
    refine b_nonnull (tgt := 100) hC dX11_count_93 (by decide) h (fun ho h => ?_) (fun w1 hyw1 h => ?_)
    · refine lv_iconst (v := 0) hC.x hC.b dX11_count_96 rfl ?_
      refine lv_goto (tgt := 107) hC.x hC.b dX11_count_97 (by decide) ?_
      rw [hQ]
      exact e_ir hC hr hH h dX11_count_107
    · obtain ⟨hww1, h⟩ := chk h
      refine lv_aload_n hC.x hC.b dX11_count_100 rfl (lv_at hl 0 rfl) ?_
      refine r_getrS hC hH fl_X11_251_11 (hL _ mX0) sX0 rfl hyw1 dX11_count_101 ?_
      refine r_geti hC hH (fw_X11_255 _ hww1.2.2.1) hww1.2.2.2.1 (sW0 hww1) rfl dX11_count_104 ?_
      rw [hQ]
      exact e_ir hC hr hH h dX11_count_107
  have h := ifn hx6 h
  refine lv_tableOut (tgt := 108) hC.x hC.b dX11_count_1 (by have a0 := ne_ti (v := 0) (z := 0) rfl hx0; have a1 := ne_ti (v := 1) (z := 1) rfl hx1; have a2 := ne_ti (v := 2) (z := 2) rfl hx2; have a3 := ne_ti (v := 3) (z := 3) rfl hx3; have a4 := ne_ti (v := 4) (z := 4) rfl hx4; have a5 := ne_ti (v := 5) (z := 5) rfl hx5; have a6 := ne_ti (v := 6) (z := 6) rfl hx6; omega) (by decide) ?_
  refine lv_bipush (v := -2) hC.x hC.b dX11_count_108 rfl ?_
  rw [hQ]
  exact e_ir hC hr hH h dX11_count_110
def f_X11_isBoard (p0 : Int32) : Option Int32 := if p0 < 0 then (some (0 : Int32)) else if (12 : Int32) ≤ p0 then (some (0 : Int32)) else some (1 : Int32)
set_option maxRecDepth 100000 in
set_option maxHeartbeats 4000000 in
theorem c_X11_isBoard {l : Launch} {E : State → Prop} {D : va_G} {cy : Nat → ClassId} {ad : Nat → Nat} {L : List Nat} {mem : gMem} {p0 : Int32} {rv : Int32} (hk : gOk ad L) (hL : ∀ o ∈ LX0, o ∈ L) (hE : gEok ad L E)  (h : f_X11_isBoard p0 = some rv) : gMet l yX11_isBoard cX11_isBoard 1 (some .boolean) 0 0 E D cy shX ad L [.int p0] mem mem (some (.int rv)) := by
  refine g_go (own := RX11) (by decide +kernel) rfl hE (Nat.le_of_ble_eq_true rfl) ?_
  intro p e s m args below meth c R Q hargs hR hQ hEs hC hr hX H locs ls hH hl
  have hF := gF_of hk
  have hl : lv_has ls 1 [(0, .int p0)] := hl
  refine lv_iload_n hC.x hC.b dX11_isBoard_0 rfl (lv_at hl 0 rfl) ?_
  refine b_if_lt (tgt := 14) hC dX11_isBoard_1 (by decide) h (fun h => ?_) (fun h => ?_)
  · refine lv_iconst (v := 0) hC.x hC.b dX11_isBoard_14 rfl ?_
    rw [hQ]
    exact e_nr hC hr rfl hH h dX11_isBoard_15
  · refine lv_iload_n hC.x hC.b dX11_isBoard_4 rfl (lv_at hl 0 rfl) ?_
    refine lv_bipush (v := 12) hC.x hC.b dX11_isBoard_5 rfl ?_
    refine b_ic_ge (tgt := 14) hC dX11_isBoard_7 (by decide) h (fun h => ?_) (fun h => ?_)
    · refine lv_iconst (v := 0) hC.x hC.b dX11_isBoard_14 rfl ?_
      rw [hQ]
      exact e_nr hC hr rfl hH h dX11_isBoard_15
    · refine lv_iconst (v := 1) hC.x hC.b dX11_isBoard_10 rfl ?_
      refine lv_goto (tgt := 15) hC.x hC.b dX11_isBoard_11 (by decide) ?_
      rw [hQ]
      exact e_nr hC hr rfl hH h dX11_isBoard_15
def f_X11_boardBeside (p0 : Int32) (p1 : Int32) : Option Int32 := lt1 (p0 - p0 / (6 : Int32) * (6 : Int32)) fun (x1 : Int32) => if p1 = 0 then (if x1 ≤ 0 then (some (-1 : Int32)) else some (p0 - (1 : Int32))) else if p1 = (1 : Int32) then (if (5 : Int32) ≤ x1 then (some (-1 : Int32)) else some (p0 + (1 : Int32))) else if (6 : Int32) ≤ p0 then (some (p0 - (6 : Int32))) else some (p0 + (6 : Int32))
set_option maxRecDepth 100000 in
set_option maxHeartbeats 4000000 in
theorem c_X11_boardBeside {l : Launch} {E : State → Prop} {D : va_G} {cy : Nat → ClassId} {ad : Nat → Nat} {L : List Nat} {mem : gMem} {p0 : Int32} {p1 : Int32} {rv : Int32} (hk : gOk ad L) (hL : ∀ o ∈ LX0, o ∈ L) (hE : gEok ad L E)  (h : f_X11_boardBeside p0 p1 = some rv) : gMet l yX11_boardBeside cX11_boardBeside 3 (some .int) 0 0 E D cy shX ad L [.int p0, .int p1] mem mem (some (.int rv)) := by
  refine g_go (own := RX11) (by decide +kernel) rfl hE (Nat.le_of_ble_eq_true rfl) ?_
  intro p e s m args below meth c R Q hargs hR hQ hEs hC hr hX H locs ls hH hl
  have hF := gF_of hk
  have hl : lv_has ls 3 [(0, .int p0), (1, .int p1)] := hl
  refine lv_iload_n hC.x hC.b dX11_boardBeside_0 rfl (lv_at hl 0 rfl) ?_
  refine lv_bipush (v := 6) hC.x hC.b dX11_boardBeside_1 rfl ?_
  refine lv_irem hC.x hC.b dX11_boardBeside_3 (by decide) ?_
  refine n_i h (fun x1 h => ?_)
  refine lv_istore_n (lv' := [(2, .int x1), (0, .int p0), (1, .int p1)]) hC.x hC.b dX11_boardBeside_4 rfl hl (by decide) rfl (fun ls hl => ?_)
  refine lv_iload_n hC.x hC.b dX11_boardBeside_5 rfl (lv_at hl 2 rfl) ?_
  refine b_if_ne (tgt := 21) hC dX11_boardBeside_6 (by decide) h (fun h => ?_) (fun h => ?_)
  · refine lv_iload_n hC.x hC.b dX11_boardBeside_21 rfl (lv_at hl 2 rfl) ?_
    refine lv_iconst (v := 1) hC.x hC.b dX11_boardBeside_22 rfl ?_
    refine b_ic_ne (tgt := 39) hC dX11_boardBeside_23 (by decide) h (fun h => ?_) (fun h => ?_)
    · refine lv_iload_n hC.x hC.b dX11_boardBeside_39 rfl (lv_at hl 1 rfl) ?_
      refine lv_bipush (v := 6) hC.x hC.b dX11_boardBeside_40 rfl ?_
      refine b_ic_ge (tgt := 52) hC dX11_boardBeside_42 (by decide) h (fun h => ?_) (fun h => ?_)
      · refine lv_iload_n hC.x hC.b dX11_boardBeside_52 rfl (lv_at hl 1 rfl) ?_
        refine lv_bipush (v := 6) hC.x hC.b dX11_boardBeside_53 rfl ?_
        refine lv_isub hC.x hC.b dX11_boardBeside_55 ?_
        rw [hQ]
        exact e_ir hC hr hH h dX11_boardBeside_56
      · refine lv_iload_n hC.x hC.b dX11_boardBeside_45 rfl (lv_at hl 1 rfl) ?_
        refine lv_bipush (v := 6) hC.x hC.b dX11_boardBeside_46 rfl ?_
        refine lv_iadd hC.x hC.b dX11_boardBeside_48 ?_
        refine lv_goto (tgt := 56) hC.x hC.b dX11_boardBeside_49 (by decide) ?_
        rw [hQ]
        exact e_ir hC hr hH h dX11_boardBeside_56
    · refine lv_iload_n hC.x hC.b dX11_boardBeside_26 rfl (lv_at hl 0 rfl) ?_
      refine lv_iconst (v := 5) hC.x hC.b dX11_boardBeside_27 rfl ?_
      refine b_ic_ge (tgt := 37) hC dX11_boardBeside_28 (by decide) h (fun h => ?_) (fun h => ?_)
      · refine lv_iconst (v := -1) hC.x hC.b dX11_boardBeside_37 rfl ?_
        rw [hQ]
        exact e_ir hC hr hH h dX11_boardBeside_38
      · refine lv_iload_n hC.x hC.b dX11_boardBeside_31 rfl (lv_at hl 1 rfl) ?_
        refine lv_iconst (v := 1) hC.x hC.b dX11_boardBeside_32 rfl ?_
        refine lv_iadd hC.x hC.b dX11_boardBeside_33 ?_
        refine lv_goto (tgt := 38) hC.x hC.b dX11_boardBeside_34 (by decide) ?_
        rw [hQ]
        exact e_ir hC hr hH h dX11_boardBeside_38
  · refine lv_iload_n hC.x hC.b dX11_boardBeside_9 rfl (lv_at hl 0 rfl) ?_
    refine b_if_le (tgt := 19) hC dX11_boardBeside_10 (by decide) h (fun h => ?_) (fun h => ?_)
    · refine lv_iconst (v := -1) hC.x hC.b dX11_boardBeside_19 rfl ?_
      rw [hQ]
      exact e_ir hC hr hH h dX11_boardBeside_20
    · refine lv_iload_n hC.x hC.b dX11_boardBeside_13 rfl (lv_at hl 1 rfl) ?_
      refine lv_iconst (v := 1) hC.x hC.b dX11_boardBeside_14 rfl ?_
      refine lv_isub hC.x hC.b dX11_boardBeside_15 ?_
      refine lv_goto (tgt := 20) hC.x hC.b dX11_boardBeside_16 (by decide) ?_
      rw [hQ]
      exact e_ir hC hr hH h dX11_boardBeside_20
def f_X11_stirsBehind (p0 : Int32) (p1 : Int32) (p2 : Int32) : Option Int32 := if p0 ≤ p1 then (if ((2 : Int32) * p0) ≤ p1 then (some p2) else some (p2 + (1 : Int32))) else some (3 : Int32)
set_option maxRecDepth 100000 in
set_option maxHeartbeats 4000000 in
theorem c_X11_stirsBehind {l : Launch} {E : State → Prop} {D : va_G} {cy : Nat → ClassId} {ad : Nat → Nat} {L : List Nat} {mem : gMem} {p0 : Int32} {p1 : Int32} {p2 : Int32} {rv : Int32} (hk : gOk ad L) (hL : ∀ o ∈ LX0, o ∈ L) (hE : gEok ad L E)  (h : f_X11_stirsBehind p0 p1 p2 = some rv) : gMet l yX11_stirsBehind cX11_stirsBehind 3 (some .int) 0 0 E D cy shX ad L [.int p0, .int p1, .int p2] mem mem (some (.int rv)) := by
  refine g_go (own := RX11) (by decide +kernel) rfl hE (Nat.le_of_ble_eq_true rfl) ?_
  intro p e s m args below meth c R Q hargs hR hQ hEs hC hr hX H locs ls hH hl
  have hF := gF_of hk
  have hl : lv_has ls 3 [(0, .int p0), (1, .int p1), (2, .int p2)] := hl
  refine lv_iload_n hC.x hC.b dX11_stirsBehind_0 rfl (lv_at hl 0 rfl) ?_
  refine lv_iload_n hC.x hC.b dX11_stirsBehind_1 rfl (lv_at hl 1 rfl) ?_
  refine b_ic_le (tgt := 7) hC dX11_stirsBehind_2 (by decide) h (fun h => ?_) (fun h => ?_)
  · refine lv_iconst (v := 2) hC.x hC.b dX11_stirsBehind_7 rfl ?_
    refine lv_iload_n hC.x hC.b dX11_stirsBehind_8 rfl (lv_at hl 0 rfl) ?_
    refine lv_imul hC.x hC.b dX11_stirsBehind_9 ?_
    refine lv_iload_n hC.x hC.b dX11_stirsBehind_10 rfl (lv_at hl 1 rfl) ?_
    refine b_ic_le (tgt := 20) hC dX11_stirsBehind_11 (by decide) h (fun h => ?_) (fun h => ?_)
    · refine lv_iload_n hC.x hC.b dX11_stirsBehind_20 rfl (lv_at hl 2 rfl) ?_
      rw [hQ]
      exact e_ir hC hr hH h dX11_stirsBehind_21
    · refine lv_iload_n hC.x hC.b dX11_stirsBehind_14 rfl (lv_at hl 2 rfl) ?_
      refine lv_iconst (v := 1) hC.x hC.b dX11_stirsBehind_15 rfl ?_
      refine lv_iadd hC.x hC.b dX11_stirsBehind_16 ?_
      refine lv_goto (tgt := 21) hC.x hC.b dX11_stirsBehind_17 (by decide) ?_
      rw [hQ]
      exact e_ir hC hr hH h dX11_stirsBehind_21
  · refine lv_iconst (v := 3) hC.x hC.b dX11_stirsBehind_5 rfl ?_
    rw [hQ]
    exact e_ir hC hr hH h dX11_stirsBehind_6
def f_X11_isFewer (p0 : Int32) (p1 : Int32) : Option Int32 := if p0 = (-5 : Int32) then (some (0 : Int32)) else jn ((some (1 : Int32)) : Option Int32) fun j1 => if p1 = (-5 : Int32) then (j1) else if p1 ≤ p0 then (some (0 : Int32)) else j1
set_option maxRecDepth 100000 in
set_option maxHeartbeats 4000000 in
theorem c_X11_isFewer {l : Launch} {E : State → Prop} {D : va_G} {cy : Nat → ClassId} {ad : Nat → Nat} {L : List Nat} {mem : gMem} {p0 : Int32} {p1 : Int32} {rv : Int32} (hk : gOk ad L) (hL : ∀ o ∈ LX0, o ∈ L) (hE : gEok ad L E)  (h : f_X11_isFewer p0 p1 = some rv) : gMet l yX11_isFewer cX11_isFewer 2 (some .boolean) 0 0 E D cy shX ad L [.int p0, .int p1] mem mem (some (.int rv)) := by
  refine g_go (own := RX11) (by decide +kernel) rfl hE (Nat.le_of_ble_eq_true rfl) ?_
  intro p e s m args below meth c R Q hargs hR hQ hEs hC hr hX H locs ls hH hl
  have hF := gF_of hk
  have hl : lv_has ls 2 [(0, .int p0), (1, .int p1)] := hl
  refine lv_iload_n hC.x hC.b dX11_isFewer_0 rfl (lv_at hl 0 rfl) ?_
  refine lv_bipush (v := -5) hC.x hC.b dX11_isFewer_1 rfl ?_
  refine b_ic_eq (tgt := 21) hC dX11_isFewer_3 (by decide) h (fun h => ?_) (fun h => ?_)
  · refine lv_iconst (v := 0) hC.x hC.b dX11_isFewer_21 rfl ?_
    rw [hQ]
    exact e_nr hC hr rfl hH h dX11_isFewer_22
  · refine lv_iload_n hC.x hC.b dX11_isFewer_6 rfl (lv_at hl 1 rfl) ?_
    refine lv_bipush (v := -5) hC.x hC.b dX11_isFewer_7 rfl ?_
    obtain ⟨j1, ej1, h⟩ := jn_e h
    have hj1 : ∀  (H : Heap) (locs : List Loc) (ls : Array Slot), j1 = some rv → gH D cy shX ad L (gA ad L) s.heap mem H locs → lv_has ls 2 [] → W p l e R s m args below meth c H locs 0 0 Q (F0 m 17 ls []) := by
      intro H locs ls h hH hl
      have h := ap0 ej1 h
      refine lv_iconst (v := 1) hC.x hC.b dX11_isFewer_17 rfl ?_
      refine lv_goto (tgt := 22) hC.x hC.b dX11_isFewer_18 (by decide) ?_
      rw [hQ]
      exact e_nr hC hr rfl hH h dX11_isFewer_22
    clear ej1
    refine b_ic_eq (tgt := 17) hC dX11_isFewer_9 (by decide) h (fun h => ?_) (fun h => ?_)
    · exact hj1  H locs ls h hH (lv_sub hl [] rfl)
    · refine lv_iload_n hC.x hC.b dX11_isFewer_12 rfl (lv_at hl 0 rfl) ?_
      refine lv_iload_n hC.x hC.b dX11_isFewer_13 rfl (lv_at hl 1 rfl) ?_
      refine b_ic_ge (tgt := 21) hC dX11_isFewer_14 (by decide) h (fun h => ?_) (fun h => ?_)
      · refine lv_iconst (v := 0) hC.x hC.b dX11_isFewer_21 rfl ?_
        rw [hQ]
        exact e_nr hC hr rfl hH h dX11_isFewer_22
      · exact hj1  H locs ls h hH (lv_sub hl [] rfl)
def s_X11_fraction_8 (j1 : Int32 → Option Int64) (self2 : Int32 → Int32 → Int32 → Option Int64) (x3 : Int32) (x4 : Int32) (x5 : Int32) : Option Int64 := if (64 : Int32) ≤ x5 then ((j1 x3)) else if x4 ≤ 0 then ((j1 x3)) else if ¬ x4 = 0 then lt1 (x3 - x3 / x4 * x4) fun (x6 : Int32) => lt1 (x5 + (1 : Int32)) fun (x7 : Int32) => (self2 x4 x6 x7) else none
def f_X11_fraction (p0 : Int32) (p1 : Int32) (p2 : Int32) : Option Int64 := jn ((fun (x8 : Int32) => if (1 : Int32) ≤ x8 then (if p2 = 0 then (if ¬ x8 = 0 then some ((p0 / x8).toInt64) else none) else if ¬ x8 = 0 then some ((p1 / x8).toInt64) else none) else some (-9223372036854775808 : Int64)) : Int32 → Option Int64) fun j1 => lq3 (s_X11_fraction_8 j1) 1000 p1 p0 (0 : Int32)
set_option maxRecDepth 100000 in
set_option maxHeartbeats 4000000 in
theorem c_X11_fraction {l : Launch} {E : State → Prop} {D : va_G} {cy : Nat → ClassId} {ad : Nat → Nat} {L : List Nat} {mem : gMem} {p0 : Int32} {p1 : Int32} {p2 : Int32} {rv : Int64} (hk : gOk ad L) (hL : ∀ o ∈ LX0, o ∈ L) (hE : gEok ad L E)  (h : f_X11_fraction p0 p1 p2 = some rv) : gMet l yX11_fraction cX11_fraction 7 (some .long) 0 0 E D cy shX ad L [.int p0, .int p1, .int p2] mem mem (some (.long rv)) := by
  refine g_go (own := RX11) (by decide +kernel) rfl hE (Nat.le_of_ble_eq_true rfl) ?_
  intro p e s m args below meth c R Q hargs hR hQ hEs hC hr hX H locs ls hH hl
  have hF := gF_of hk
  have hl : lv_has ls 7 [(0, .int p0), (1, .int p1), (2, .int p2)] := hl
  refine lv_iload_n hC.x hC.b dX11_fraction_0 rfl (lv_at hl 1 rfl) ?_
  refine lv_istore_n (lv' := [(3, .int p1), (0, .int p0), (1, .int p1), (2, .int p2)]) hC.x hC.b dX11_fraction_1 rfl hl (by decide) rfl (fun ls hl => ?_)
  refine lv_iload_n hC.x hC.b dX11_fraction_2 rfl (lv_at hl 1 rfl) ?_
  refine lv_istore (lv' := [(4, .int p0), (3, .int p1), (0, .int p0), (1, .int p1), (2, .int p2)]) hC.x hC.b dX11_fraction_3 hl (by decide) rfl (fun ls hl => ?_)
  refine lv_iconst (v := 0) hC.x hC.b dX11_fraction_5 rfl ?_
  refine lv_istore (lv' := [(5, .int (0 : Int32)), (4, .int p0), (3, .int p1), (0, .int p0), (1, .int p1), (2, .int p2)]) hC.x hC.b dX11_fraction_6 hl (by decide) rfl (fun ls hl => ?_)
  obtain ⟨j1, ej1, h⟩ := jn_e h
  have hj1 : ∀ (x8 : Int32) (H : Heap) (locs : List Loc) (ls : Array Slot), (j1 x8) = some rv → gH D cy shX ad L (gA ad L) s.heap mem H locs → lv_has ls 7 [(0, .int p0), (1, .int p1), (2, .int p2), (3, .int x8)] → W p l e R s m args below meth c H locs 0 0 Q (F0 m 39 ls []) := by
    intro x8 H locs ls h hH hl
    have h := ap1 ej1 h
    refine lv_iload_n hC.x hC.b dX11_fraction_39 rfl (lv_at hl 3 rfl) ?_
    refine lv_iconst (v := 1) hC.x hC.b dX11_fraction_40 rfl ?_
    refine b_ic_ge (tgt := 48) hC dX11_fraction_41 (by decide) h (fun h => ?_) (fun h => ?_)
    · refine lv_iload_n hC.x hC.b dX11_fraction_48 rfl (lv_at hl 2 rfl) ?_
      refine b_if_ne (tgt := 59) hC dX11_fraction_49 (by decide) h (fun h => ?_) (fun h => ?_)
      · refine lv_iload_n hC.x hC.b dX11_fraction_59 rfl (lv_at hl 1 rfl) ?_
        refine lv_iload_n hC.x hC.b dX11_fraction_60 rfl (lv_at hl 3 rfl) ?_
        refine r_idiv hC dX11_fraction_61 h (fun h => ?_)
        refine lv_i2l hC.x hC.b dX11_fraction_62 rfl ?_
        rw [hQ]
        exact e_lr hC hr hH h dX11_fraction_63
      · refine lv_iload_n hC.x hC.b dX11_fraction_52 rfl (lv_at hl 0 rfl) ?_
        refine lv_iload_n hC.x hC.b dX11_fraction_53 rfl (lv_at hl 3 rfl) ?_
        refine r_idiv hC dX11_fraction_54 h (fun h => ?_)
        refine lv_i2l hC.x hC.b dX11_fraction_55 rfl ?_
        refine lv_goto (tgt := 63) hC.x hC.b dX11_fraction_56 (by decide) ?_
        rw [hQ]
        exact e_lr hC hr hH h dX11_fraction_63
    · refine lv_ldc2 (v := -9223372036854775808) hC.x hC.b hC.ow (hC.ts _ kw998) dX11_fraction_44 ?_
      rw [hQ]
      exact e_lr hC hr hH h dX11_fraction_47
  clear ej1
  have hl2 : ∀ (n : Nat) (x3 : Int32) (x4 : Int32) (x5 : Int32) (H : Heap) (locs : List Loc) (ls : Array Slot), lq3 (s_X11_fraction_8 j1) n x3 x4 x5 = some rv → gH D cy shX ad L (gA ad L) s.heap mem H locs → lv_has ls 7 [(0, .int p0), (1, .int p1), (2, .int p2), (3, .int x3), (4, .int x4), (5, .int x5)] → W p l e R s m args below meth c H locs 0 0 Q (F0 m 8 ls []) := by
    intro n
    induction n with
    | zero => intro x3 x4 x5 H locs ls h _ _; exact lq3_0 h
    | succ n ih2 =>
      intro x3 x4 x5 H locs ls h hH hl
      obtain ⟨self2, es2, h⟩ := lq3_s h
      refine lv_iload hC.x hC.b dX11_fraction_8 (lv_at hl 5 rfl) ?_
      refine lv_bipush (v := 64) hC.x hC.b dX11_fraction_10 rfl ?_
      refine b_ic_ge (tgt := 39) hC dX11_fraction_12 (by decide) h (fun h => ?_) (fun h => ?_)
      · exact hj1 x3 H locs ls h hH (lv_sub hl [0, 1, 2, 3] rfl)
      · refine lv_iload hC.x hC.b dX11_fraction_15 (lv_at hl 4 rfl) ?_
        refine b_if_le (tgt := 39) hC dX11_fraction_17 (by decide) h (fun h => ?_) (fun h => ?_)
        · exact hj1 x3 H locs ls h hH (lv_sub hl [0, 1, 2, 3] rfl)
        · refine lv_iload_n hC.x hC.b dX11_fraction_20 rfl (lv_at hl 3 rfl) ?_
          refine lv_iload hC.x hC.b dX11_fraction_21 (lv_at hl 4 rfl) ?_
          refine r_irem hC dX11_fraction_23 h (fun h => ?_)
          refine n_i h (fun x6 h => ?_)
          refine lv_istore (lv' := [(6, .int x6), (0, .int p0), (1, .int p1), (2, .int p2), (3, .int x3), (4, .int x4), (5, .int x5)]) hC.x hC.b dX11_fraction_24 hl (by decide) rfl (fun ls hl => ?_)
          refine lv_iload hC.x hC.b dX11_fraction_26 (lv_at hl 5 rfl) ?_
          refine lv_istore_n (lv' := [(3, .int x4), (6, .int x6), (0, .int p0), (1, .int p1), (2, .int p2), (4, .int x4), (5, .int x5)]) hC.x hC.b dX11_fraction_28 rfl hl (by decide) rfl (fun ls hl => ?_)
          refine lv_iload hC.x hC.b dX11_fraction_29 (lv_at hl 1 rfl) ?_
          refine lv_istore (lv' := [(4, .int x6), (3, .int x4), (6, .int x6), (0, .int p0), (1, .int p1), (2, .int p2), (5, .int x5)]) hC.x hC.b dX11_fraction_31 hl (by decide) rfl (fun ls hl => ?_)
          refine i_inc (lv' := fun x7 => [(5, .int x7), (4, .int x6), (3, .int x4), (6, .int x6), (0, .int p0), (1, .int p1), (2, .int p2)]) hC dX11_fraction_33 hl (k := 6) rfl (by decide) (fun _ => rfl) (z := 1) rfl h (fun x7 ls h hl => ?_)
          refine lv_goto (tgt := 8) hC.x hC.b dX11_fraction_36 (by decide) ?_
          exact ih2 x4 x6 x7 H locs ls (ap3 es2 h) hH (lv_sub hl [4, 5, 6, 2, 1, 0] rfl)
  exact hl2 _ p1 p0 (0 : Int32) H locs ls h hH (lv_sub hl [3, 4, 5, 2, 1, 0] rfl)
theorem fl_X11_23_11 : gFl RX11 23 11 3 := ⟨RX11, TX11, 13, "OnTiptoe", rfl, inW11, by decide, kw19, Or.inl rfl⟩
def f_X11_find (L : List Nat) (mem : gMem) (p0 : Int32) : Option (Option Nat) := if p0 < 0 then (some none) else if (4 : Int32) ≤ p0 then (some none) else if p0 < (gI mem 10 3) then (if okI p0 4 then some (gR mem 1 (ix p0)) else none) else some none
set_option maxRecDepth 100000 in
set_option maxHeartbeats 4000000 in
theorem c_X11_find {l : Launch} {E : State → Prop} {D : va_G} {cy : Nat → ClassId} {ad : Nat → Nat} {L : List Nat} {mem : gMem} {p0 : Int32} {rv : Option Nat} (hk : gOk ad L) (hL : ∀ o ∈ LX0, o ∈ L) (hE : gEok ad L E)  (h : f_X11_find L mem p0 = some rv) : gMet l yX11_find cX11_find 2 (some (.object "OnTiptoe$Walker")) 0 0 E D cy shX ad L [.ref (ad 0), .int p0] mem mem (some (va_rf (Option.map ad rv))) := by
  refine g_go (own := RX11) (by decide +kernel) rfl hE (Nat.le_of_ble_eq_true rfl) ?_
  intro p e s m args below meth c R Q hargs hR hQ hEs hC hr hX H locs ls hH hl
  have hF := gF_of hk
  have hl : lv_has ls 2 [(0, .ref (ad 0)), (1, .int p0)] := hl
  refine lv_iload_n hC.x hC.b dX11_find_0 rfl (lv_at hl 1 rfl) ?_
  refine b_if_lt (tgt := 20) hC dX11_find_1 (by decide) h (fun h => ?_) (fun h => ?_)
  · refine lv_null hC.x hC.b dX11_find_20 ?_
    rw [hQ]
    exact e_ar (x := none) hC hr (Or.inl ⟨_, rfl⟩) rfl hH h dX11_find_21
  · refine lv_iload_n hC.x hC.b dX11_find_4 rfl (lv_at hl 1 rfl) ?_
    refine lv_iconst (v := 4) hC.x hC.b dX11_find_5 rfl ?_
    refine b_ic_ge (tgt := 20) hC dX11_find_6 (by decide) h (fun h => ?_) (fun h => ?_)
    · refine lv_null hC.x hC.b dX11_find_20 ?_
      rw [hQ]
      exact e_ar (x := none) hC hr (Or.inl ⟨_, rfl⟩) rfl hH h dX11_find_21
    · refine lv_iload_n hC.x hC.b dX11_find_9 rfl (lv_at hl 1 rfl) ?_
      refine lv_aload_n hC.x hC.b dX11_find_10 rfl (lv_at hl 0 rfl) ?_
      refine r_getc (z := 10) hC hH fl_X11_12_11 (hL _ mX0) sX0 rfl dX11_find_11 ?_
      refine r_geti hC hH fl_X11_82_2 (hL _ mX10) sX10 rfl dX11_find_14 ?_
      refine b_ic_lt (tgt := 22) hC dX11_find_17 (by decide) h (fun h => ?_) (fun h => ?_)
      · refine lv_aload_n hC.x hC.b dX11_find_22 rfl (lv_at hl 0 rfl) ?_
        refine r_getc (z := 1) hC hH fl_X11_23_11 (hL _ mX0) sX0 rfl dX11_find_23 ?_
        refine lv_iload_n hC.x hC.b dX11_find_26 rfl (lv_at hl 1 rfl) ?_
        refine r_aald (t := 1) hC hH (hL _ mX1) sX1 rfl rfl h dX11_find_27 (fun h => ?_)
        rw [hQ]
        exact e_ar (x := (gR mem 1 (ix p0))) hC hr (Or.inl ⟨_, rfl⟩) rfl hH h dX11_find_28
      · refine lv_null hC.x hC.b dX11_find_20 ?_
        rw [hQ]
        exact e_ar (x := none) hC hr (Or.inl ⟨_, rfl⟩) rfl hH h dX11_find_21
def f_X11_isOfKind (L : List Nat) (mem : gMem) (p0 : Nat) (p1 : Int32) : Option Int32 := if p1 = 0 then (some (1 : Int32)) else if p1 = 1 then (if isB (if wkd p0 ∈ [1, 4] then (1 : Int32) else 0) then some (if wkd p0 ∈ [1, 4] then (1 : Int32) else 0) else none) else if p1 = 2 then (if isB (if wkd p0 ∈ [2, 5] then (1 : Int32) else 0) then some (if wkd p0 ∈ [2, 5] then (1 : Int32) else 0) else none) else if p1 = 3 then (if isB (if wkd p0 ∈ [3, 6] then (1 : Int32) else 0) then some (if wkd p0 ∈ [3, 6] then (1 : Int32) else 0) else none) else if p1 = 4 then (if isB (if wkd p0 ∈ [4] then (1 : Int32) else 0) then some (if wkd p0 ∈ [4] then (1 : Int32) else 0) else none) else if p1 = 5 then (if isB (if wkd p0 ∈ [5] then (1 : Int32) else 0) then some (if wkd p0 ∈ [5] then (1 : Int32) else 0) else none) else if isB (if wkd p0 ∈ [6] then (1 : Int32) else 0) then some (if wkd p0 ∈ [6] then (1 : Int32) else 0) else none
set_option maxRecDepth 100000 in
set_option maxHeartbeats 4000000 in
theorem c_X11_isOfKind {l : Launch} {E : State → Prop} {D : va_G} {cy : Nat → ClassId} {ad : Nat → Nat} {L : List Nat} {mem : gMem} {p0 : Nat} {p1 : Int32} {rv : Int32} (hk : gOk ad L) (hL : ∀ o ∈ LX0, o ∈ L) (hE : gEok ad L E) (hp0 : wok L p0) (h : f_X11_isOfKind L mem p0 p1 = some rv) : gMet l yX11_isOfKind cX11_isOfKind 2 (some .boolean) 0 0 E D cy shX ad L [.ref (ad p0), .int p1] mem mem (some (.int rv)) := by
  refine g_go (own := RX11) (by decide +kernel) rfl hE (Nat.le_of_ble_eq_true rfl) ?_
  intro p e s m args below meth c R Q hargs hR hQ hEs hC hr hX H locs ls hH hl
  have hF := gF_of hk
  have hl : lv_has ls 2 [(0, .ref (ad p0)), (1, .int p1)] := hl
  refine lv_iload_n hC.x hC.b dX11_isOfKind_0 rfl (lv_at hl 1 rfl) ?_
  by_cases hx0 : p1 = 0
  · have h := ifp hx0 h
    refine lv_tableIn (off := 39) (tgt := 40) hC.x hC.b dX11_isOfKind_1 (by rw [hx0]; decide) (by rw [hx0]; decide) (by rw [hx0]; rfl) (by decide) ?_
    refine lv_iconst (v := 1) hC.x hC.b dX11_isOfKind_40 rfl ?_
    rw [hQ]
    exact e_nr hC hr rfl hH h dX11_isOfKind_41
  have h := ifn hx0 h
  by_cases hx1 : p1 = 1
  · have h := ifp hx1 h
    refine lv_tableIn (off := 41) (tgt := 42) hC.x hC.b dX11_isOfKind_1 (by rw [hx1]; decide) (by rw [hx1]; decide) (by rw [hx1]; rfl) (by decide) ?_
    refine lv_aload_n hC.x hC.b dX11_isOfKind_42 rfl (lv_at hl 0 rfl) ?_
    refine r_inst inst1 hC hH hp0 (hE.2.2 _ hEs) kw202 dX11_isOfKind_43 ?_
    rw [hQ]
    exact e_zr hC hr hH h dX11_isOfKind_46
  have h := ifn hx1 h
  by_cases hx2 : p1 = 2
  · have h := ifp hx2 h
    refine lv_tableIn (off := 46) (tgt := 47) hC.x hC.b dX11_isOfKind_1 (by rw [hx2]; decide) (by rw [hx2]; decide) (by rw [hx2]; rfl) (by decide) ?_
    refine lv_aload_n hC.x hC.b dX11_isOfKind_47 rfl (lv_at hl 0 rfl) ?_
    refine r_inst inst2 hC hH hp0 (hE.2.2 _ hEs) kw205 dX11_isOfKind_48 ?_
    rw [hQ]
    exact e_zr hC hr hH h dX11_isOfKind_51
  have h := ifn hx2 h
  by_cases hx3 : p1 = 3
  · have h := ifp hx3 h
    refine lv_tableIn (off := 51) (tgt := 52) hC.x hC.b dX11_isOfKind_1 (by rw [hx3]; decide) (by rw [hx3]; decide) (by rw [hx3]; rfl) (by decide) ?_
    refine lv_aload_n hC.x hC.b dX11_isOfKind_52 rfl (lv_at hl 0 rfl) ?_
    refine r_inst inst3 hC hH hp0 (hE.2.2 _ hEs) kw208 dX11_isOfKind_53 ?_
    rw [hQ]
    exact e_zr hC hr hH h dX11_isOfKind_56
  have h := ifn hx3 h
  by_cases hx4 : p1 = 4
  · have h := ifp hx4 h
    refine lv_tableIn (off := 56) (tgt := 57) hC.x hC.b dX11_isOfKind_1 (by rw [hx4]; decide) (by rw [hx4]; decide) (by rw [hx4]; rfl) (by decide) ?_
    refine lv_aload_n hC.x hC.b dX11_isOfKind_57 rfl (lv_at hl 0 rfl) ?_
    refine r_inst inst4 hC hH hp0 (hE.2.2 _ hEs) kw211 dX11_isOfKind_58 ?_
    rw [hQ]
    exact e_zr hC hr hH h dX11_isOfKind_61
  have h := ifn hx4 h
  by_cases hx5 : p1 = 5
  · have h := ifp hx5 h
    refine lv_tableIn (off := 61) (tgt := 62) hC.x hC.b dX11_isOfKind_1 (by rw [hx5]; decide) (by rw [hx5]; decide) (by rw [hx5]; rfl) (by decide) ?_
    refine lv_aload_n hC.x hC.b dX11_isOfKind_62 rfl (lv_at hl 0 rfl) ?_
    refine r_inst inst5 hC hH hp0 (hE.2.2 _ hEs) kw214 dX11_isOfKind_63 ?_
    rw [hQ]
    exact e_zr hC hr hH h dX11_isOfKind_66
  have h := ifn hx5 h
  refine lv_tableOut (tgt := 67) hC.x hC.b dX11_isOfKind_1 (by have a0 := ne_ti (v := 0) (z := 0) rfl hx0; have a1 := ne_ti (v := 1) (z := 1) rfl hx1; have a2 := ne_ti (v := 2) (z := 2) rfl hx2; have a3 := ne_ti (v := 3) (z := 3) rfl hx3; have a4 := ne_ti (v := 4) (z := 4) rfl hx4; have a5 := ne_ti (v := 5) (z := 5) rfl hx5; omega) (by decide) ?_
  refine lv_aload_n hC.x hC.b dX11_isOfKind_67 rfl (lv_at hl 0 rfl) ?_
  refine r_inst inst6 hC hH hp0 (hE.2.2 _ hEs) kw217 dX11_isOfKind_68 ?_
  rw [hQ]
  exact e_zr hC hr hH h dX11_isOfKind_71
def f_X11_isTape (p0 : Int32) : Option Int32 := if p0 < 0 then (some (0 : Int32)) else if (6 : Int32) ≤ p0 then (some (0 : Int32)) else some (1 : Int32)
set_option maxRecDepth 100000 in
set_option maxHeartbeats 4000000 in
theorem c_X11_isTape {l : Launch} {E : State → Prop} {D : va_G} {cy : Nat → ClassId} {ad : Nat → Nat} {L : List Nat} {mem : gMem} {p0 : Int32} {rv : Int32} (hk : gOk ad L) (hL : ∀ o ∈ LX0, o ∈ L) (hE : gEok ad L E)  (h : f_X11_isTape p0 = some rv) : gMet l yX11_isTape cX11_isTape 1 (some .boolean) 0 0 E D cy shX ad L [.int p0] mem mem (some (.int rv)) := by
  refine g_go (own := RX11) (by decide +kernel) rfl hE (Nat.le_of_ble_eq_true rfl) ?_
  intro p e s m args below meth c R Q hargs hR hQ hEs hC hr hX H locs ls hH hl
  have hF := gF_of hk
  have hl : lv_has ls 1 [(0, .int p0)] := hl
  refine lv_iload_n hC.x hC.b dX11_isTape_0 rfl (lv_at hl 0 rfl) ?_
  refine b_if_lt (tgt := 14) hC dX11_isTape_1 (by decide) h (fun h => ?_) (fun h => ?_)
  · refine lv_iconst (v := 0) hC.x hC.b dX11_isTape_14 rfl ?_
    rw [hQ]
    exact e_nr hC hr rfl hH h dX11_isTape_15
  · refine lv_iload_n hC.x hC.b dX11_isTape_4 rfl (lv_at hl 0 rfl) ?_
    refine lv_bipush (v := 6) hC.x hC.b dX11_isTape_5 rfl ?_
    refine b_ic_ge (tgt := 14) hC dX11_isTape_7 (by decide) h (fun h => ?_) (fun h => ?_)
    · refine lv_iconst (v := 0) hC.x hC.b dX11_isTape_14 rfl ?_
      rw [hQ]
      exact e_nr hC hr rfl hH h dX11_isTape_15
    · refine lv_iconst (v := 1) hC.x hC.b dX11_isTape_10 rfl ?_
      refine lv_goto (tgt := 15) hC.x hC.b dX11_isTape_11 (by decide) ?_
      rw [hQ]
      exact e_nr hC hr rfl hH h dX11_isTape_15
theorem fl_X11_51_11 : gFl RX11 51 11 10 := ⟨RX11, TX11, 13, "OnTiptoe", rfl, inW11, by decide, kw32, Or.inl rfl⟩
def f_X11_hasPlace (L : List Nat) (mem : gMem) (p0 : Int32) (p1 : Int32) : Option Int32 := if p1 < 0 then (some (0 : Int32)) else if okI p0 6 then if (gI mem 4 (ix p0)) ≤ p1 then (some (0 : Int32)) else if (60 : Int32) ≤ p1 then (some (0 : Int32)) else some (1 : Int32) else none
set_option maxRecDepth 100000 in
set_option maxHeartbeats 4000000 in
theorem c_X11_hasPlace {l : Launch} {E : State → Prop} {D : va_G} {cy : Nat → ClassId} {ad : Nat → Nat} {L : List Nat} {mem : gMem} {p0 : Int32} {p1 : Int32} {rv : Int32} (hk : gOk ad L) (hL : ∀ o ∈ LX0, o ∈ L) (hE : gEok ad L E)  (h : f_X11_hasPlace L mem p0 p1 = some rv) : gMet l yX11_hasPlace cX11_hasPlace 3 (some .boolean) 0 0 E D cy shX ad L [.ref (ad 0), .int p0, .int p1] mem mem (some (.int rv)) := by
  refine g_go (own := RX11) (by decide +kernel) rfl hE (Nat.le_of_ble_eq_true rfl) ?_
  intro p e s m args below meth c R Q hargs hR hQ hEs hC hr hX H locs ls hH hl
  have hF := gF_of hk
  have hl : lv_has ls 3 [(0, .ref (ad 0)), (1, .int p0), (2, .int p1)] := hl
  refine lv_iload_n hC.x hC.b dX11_hasPlace_0 rfl (lv_at hl 2 rfl) ?_
  refine b_if_lt (tgt := 24) hC dX11_hasPlace_1 (by decide) h (fun h => ?_) (fun h => ?_)
  · refine lv_iconst (v := 0) hC.x hC.b dX11_hasPlace_24 rfl ?_
    rw [hQ]
    exact e_nr hC hr rfl hH h dX11_hasPlace_25
  · refine lv_iload_n hC.x hC.b dX11_hasPlace_4 rfl (lv_at hl 2 rfl) ?_
    refine lv_aload_n hC.x hC.b dX11_hasPlace_5 rfl (lv_at hl 0 rfl) ?_
    refine r_getc (z := 4) hC hH fl_X11_51_11 (hL _ mX0) sX0 rfl dX11_hasPlace_6 ?_
    refine lv_iload_n hC.x hC.b dX11_hasPlace_9 rfl (lv_at hl 1 rfl) ?_
    refine r_iald hC hH (hL _ mX4) sX4 h dX11_hasPlace_10 (fun h => ?_)
    refine b_ic_ge (tgt := 24) hC dX11_hasPlace_11 (by decide) h (fun h => ?_) (fun h => ?_)
    · refine lv_iconst (v := 0) hC.x hC.b dX11_hasPlace_24 rfl ?_
      rw [hQ]
      exact e_nr hC hr rfl hH h dX11_hasPlace_25
    · refine lv_iload_n hC.x hC.b dX11_hasPlace_14 rfl (lv_at hl 2 rfl) ?_
      refine lv_bipush (v := 60) hC.x hC.b dX11_hasPlace_15 rfl ?_
      refine b_ic_ge (tgt := 24) hC dX11_hasPlace_17 (by decide) h (fun h => ?_) (fun h => ?_)
      · refine lv_iconst (v := 0) hC.x hC.b dX11_hasPlace_24 rfl ?_
        rw [hQ]
        exact e_nr hC hr rfl hH h dX11_hasPlace_25
      · refine lv_iconst (v := 1) hC.x hC.b dX11_hasPlace_20 rfl ?_
        refine lv_goto (tgt := 25) hC.x hC.b dX11_hasPlace_21 (by decide) ?_
        rw [hQ]
        exact e_nr hC hr rfl hH h dX11_hasPlace_25
def f_X11_hasPart (L : List Nat) (mem : gMem) (p0 : Int32) (p1 : Int32) (p2 : Int32) : Option Int32 := if okI p0 6 then lt1 (if (60 : Int32) < (gI mem 4 (ix p0)) then (60 : Int32) else (gI mem 4 (ix p0))) fun (x1 : Int32) => if p2 < 0 then (some (0 : Int32)) else if p1 < 0 then (some (0 : Int32)) else if x1 < p2 then (some (0 : Int32)) else if (x1 - p2) < p1 then (some (0 : Int32)) else some (1 : Int32) else none
set_option maxRecDepth 100000 in
set_option maxHeartbeats 4000000 in
theorem c_X11_hasPart {l : Launch} {E : State → Prop} {D : va_G} {cy : Nat → ClassId} {ad : Nat → Nat} {L : List Nat} {mem : gMem} {p0 : Int32} {p1 : Int32} {p2 : Int32} {rv : Int32} (hk : gOk ad L) (hL : ∀ o ∈ LX0, o ∈ L) (hE : gEok ad L E)  (h : f_X11_hasPart L mem p0 p1 p2 = some rv) : gMet l yX11_hasPart cX11_hasPart 5 (some .boolean) 1 21 E D cy shX ad L [.ref (ad 0), .int p0, .int p1, .int p2] mem mem (some (.int rv)) := by
  refine g_go (own := RX11) (by decide +kernel) rfl hE (Nat.le_of_ble_eq_true rfl) ?_
  intro p e s m args below meth c R Q hargs hR hQ hEs hC hr hX H locs ls hH hl
  have hF := gF_of hk
  have hl : lv_has ls 5 [(0, .ref (ad 0)), (1, .int p0), (2, .int p1), (3, .int p2)] := hl
  refine lv_aload_n hC.x hC.b dX11_hasPart_0 rfl (lv_at hl 0 rfl) ?_
  refine r_getc (z := 4) hC hH fl_X11_51_11 (hL _ mX0) sX0 rfl dX11_hasPart_1 ?_
  refine lv_iload_n hC.x hC.b dX11_hasPart_4 rfl (lv_at hl 1 rfl) ?_
  refine r_iald hC hH (hL _ mX4) sX4 h dX11_hasPart_5 (fun h => ?_)
  refine lv_bipush (v := 60) hC.x hC.b dX11_hasPart_6 rfl ?_
  refine m_min hC hl.1 kw1045 kw579 kw310 kw580 (rmM hR (by decide) (Nat.le_of_ble_eq_true rfl)) dX11_hasPart_8 ?_
  refine n_i h (fun x1 h => ?_)
  refine lv_istore (lv' := [(4, .int x1), (0, .ref (ad 0)), (1, .int p0), (2, .int p1), (3, .int p2)]) hC.x hC.b dX11_hasPart_11 hl (by decide) rfl (fun ls hl => ?_)
  refine lv_iload_n hC.x hC.b dX11_hasPart_13 rfl (lv_at hl 4 rfl) ?_
  refine b_if_lt (tgt := 39) hC dX11_hasPart_14 (by decide) h (fun h => ?_) (fun h => ?_)
  · refine lv_iconst (v := 0) hC.x hC.b dX11_hasPart_39 rfl ?_
    rw [hQ]
    exact e_nr hC hr rfl hH h dX11_hasPart_40
  · refine lv_iload_n hC.x hC.b dX11_hasPart_17 rfl (lv_at hl 3 rfl) ?_
    refine b_if_lt (tgt := 39) hC dX11_hasPart_18 (by decide) h (fun h => ?_) (fun h => ?_)
    · refine lv_iconst (v := 0) hC.x hC.b dX11_hasPart_39 rfl ?_
      rw [hQ]
      exact e_nr hC hr rfl hH h dX11_hasPart_40
    · refine lv_iload_n hC.x hC.b dX11_hasPart_21 rfl (lv_at hl 4 rfl) ?_
      refine lv_iload hC.x hC.b dX11_hasPart_22 (lv_at hl 0 rfl) ?_
      refine b_ic_gt (tgt := 39) hC dX11_hasPart_24 (by decide) h (fun h => ?_) (fun h => ?_)
      · refine lv_iconst (v := 0) hC.x hC.b dX11_hasPart_39 rfl ?_
        rw [hQ]
        exact e_nr hC hr rfl hH h dX11_hasPart_40
      · refine lv_iload_n hC.x hC.b dX11_hasPart_27 rfl (lv_at hl 3 rfl) ?_
        refine lv_iload hC.x hC.b dX11_hasPart_28 (lv_at hl 0 rfl) ?_
        refine lv_iload_n hC.x hC.b dX11_hasPart_30 rfl (lv_at hl 4 rfl) ?_
        refine lv_isub hC.x hC.b dX11_hasPart_31 ?_
        refine b_ic_gt (tgt := 39) hC dX11_hasPart_32 (by decide) h (fun h => ?_) (fun h => ?_)
        · refine lv_iconst (v := 0) hC.x hC.b dX11_hasPart_39 rfl ?_
          rw [hQ]
          exact e_nr hC hr rfl hH h dX11_hasPart_40
        · refine lv_iconst (v := 1) hC.x hC.b dX11_hasPart_35 rfl ?_
          refine lv_goto (tgt := 40) hC.x hC.b dX11_hasPart_36 (by decide) ?_
          rw [hQ]
          exact e_nr hC hr rfl hH h dX11_hasPart_40
def f_X11_lowestBits (p0 : Int32) (p1 : Int64) : Option Int64 := if p0 = 0 then (some (((p1.toInt32).toInt8.toInt32).toInt64)) else if p0 = 1 then (some (((p1.toInt32).toInt16.toInt32).toInt64)) else if p0 = 2 then (some ((p1.toInt32).toInt64)) else if p0 = 3 then (some p1) else if (lg_cmp p1 (0 : Int64)) = 0 then (some (0 : Int64)) else some (1 : Int64)
set_option maxRecDepth 100000 in
set_option maxHeartbeats 4000000 in
theorem c_X11_lowestBits {l : Launch} {E : State → Prop} {D : va_G} {cy : Nat → ClassId} {ad : Nat → Nat} {L : List Nat} {mem : gMem} {p0 : Int32} {p1 : Int64} {rv : Int64} (hk : gOk ad L) (hL : ∀ o ∈ LX0, o ∈ L) (hE : gEok ad L E)  (h : f_X11_lowestBits p0 p1 = some rv) : gMet l yX11_lowestBits cX11_lowestBits 3 (some .long) 0 0 E D cy shX ad L [.int p0, .long p1] mem mem (some (.long rv)) := by
  refine g_go (own := RX11) (by decide +kernel) rfl hE (Nat.le_of_ble_eq_true rfl) ?_
  intro p e s m args below meth c R Q hargs hR hQ hEs hC hr hX H locs ls hH hl
  have hF := gF_of hk
  have hl : lv_has ls 3 [(0, .int p0), (1, .long p1)] := hl
  refine lv_iload_n hC.x hC.b dX11_lowestBits_0 rfl (lv_at hl 0 rfl) ?_
  by_cases hx0 : p0 = 0
  · have h := ifp hx0 h
    refine lv_tableIn (off := 31) (tgt := 32) hC.x hC.b dX11_lowestBits_1 (by rw [hx0]; decide) (by rw [hx0]; decide) (by rw [hx0]; rfl) (by decide) ?_
    refine lv_lload_n hC.x hC.b dX11_lowestBits_32 rfl (lv_at hl 1 rfl) ?_
    refine lv_l2i hC.x hC.b dX11_lowestBits_33 rfl ?_
    refine lv_i2b hC.x hC.b dX11_lowestBits_34 rfl ?_
    refine lv_i2l hC.x hC.b dX11_lowestBits_35 rfl ?_
    rw [hQ]
    exact e_lr hC hr hH h dX11_lowestBits_36
  have h := ifn hx0 h
  by_cases hx1 : p0 = 1
  · have h := ifp hx1 h
    refine lv_tableIn (off := 36) (tgt := 37) hC.x hC.b dX11_lowestBits_1 (by rw [hx1]; decide) (by rw [hx1]; decide) (by rw [hx1]; rfl) (by decide) ?_
    refine lv_lload_n hC.x hC.b dX11_lowestBits_37 rfl (lv_at hl 1 rfl) ?_
    refine lv_l2i hC.x hC.b dX11_lowestBits_38 rfl ?_
    refine lv_i2s hC.x hC.b dX11_lowestBits_39 rfl ?_
    refine lv_i2l hC.x hC.b dX11_lowestBits_40 rfl ?_
    rw [hQ]
    exact e_lr hC hr hH h dX11_lowestBits_41
  have h := ifn hx1 h
  by_cases hx2 : p0 = 2
  · have h := ifp hx2 h
    refine lv_tableIn (off := 41) (tgt := 42) hC.x hC.b dX11_lowestBits_1 (by rw [hx2]; decide) (by rw [hx2]; decide) (by rw [hx2]; rfl) (by decide) ?_
    refine lv_lload_n hC.x hC.b dX11_lowestBits_42 rfl (lv_at hl 1 rfl) ?_
    refine lv_l2i hC.x hC.b dX11_lowestBits_43 rfl ?_
    refine lv_i2l hC.x hC.b dX11_lowestBits_44 rfl ?_
    rw [hQ]
    exact e_lr hC hr hH h dX11_lowestBits_45
  have h := ifn hx2 h
  by_cases hx3 : p0 = 3
  · have h := ifp hx3 h
    refine lv_tableIn (off := 45) (tgt := 46) hC.x hC.b dX11_lowestBits_1 (by rw [hx3]; decide) (by rw [hx3]; decide) (by rw [hx3]; rfl) (by decide) ?_
    refine lv_lload_n hC.x hC.b dX11_lowestBits_46 rfl (lv_at hl 1 rfl) ?_
    rw [hQ]
    exact e_lr hC hr hH h dX11_lowestBits_47
  have h := ifn hx3 h
  refine lv_tableOut (tgt := 48) hC.x hC.b dX11_lowestBits_1 (by have a0 := ne_ti (v := 0) (z := 0) rfl hx0; have a1 := ne_ti (v := 1) (z := 1) rfl hx1; have a2 := ne_ti (v := 2) (z := 2) rfl hx2; have a3 := ne_ti (v := 3) (z := 3) rfl hx3; omega) (by decide) ?_
  refine lv_lload_n hC.x hC.b dX11_lowestBits_48 rfl (lv_at hl 1 rfl) ?_
  refine lv_lconst (v := 0) hC.x hC.b dX11_lowestBits_49 rfl ?_
  refine W.lcmp hC.x hC.b dX11_lowestBits_50 ?_
  refine b_if_eq (tgt := 58) hC dX11_lowestBits_51 (by decide) h (fun h => ?_) (fun h => ?_)
  · refine lv_lconst (v := 0) hC.x hC.b dX11_lowestBits_58 rfl ?_
    rw [hQ]
    exact e_lr hC hr hH h dX11_lowestBits_59
  · refine lv_lconst (v := 1) hC.x hC.b dX11_lowestBits_54 rfl ?_
    refine lv_goto (tgt := 59) hC.x hC.b dX11_lowestBits_55 (by decide) ?_
    rw [hQ]
    exact e_lr hC hr hH h dX11_lowestBits_59
def f_X0_kind (L : List Nat) (w0 : Nat) : Option Int32 := some (5 : Int32)
set_option maxRecDepth 100000 in
set_option maxHeartbeats 4000000 in
theorem c_X0_kind {l : Launch} {E : State → Prop} {D : va_G} {cy : Nat → ClassId} {ad : Nat → Nat} {L : List Nat} {mem : gMem} {w0 : Nat} {rv : Int32} (hk : gOk ad L) (hL : ∀ o ∈ LX0, o ∈ L) (hE : gEok ad L E) (hw0 : wok L w0) (hkd : wkd w0 = 5) (h : f_X0_kind L w0 = some rv) : gMet l yX0_kind cX0_kind 1 (some .int) 0 0 E D cy shX ad L [.ref (ad w0)] mem mem (some (.int rv)) := by
  refine g_go (own := RX0) (by decide +kernel) rfl hE (Nat.le_of_ble_eq_true rfl) ?_
  intro p e s m args below meth c R Q hargs hR hQ hEs hC hr hX H locs ls hH hl
  have hF := gF_of hk
  have hl : lv_has ls 1 [(0, .ref (ad w0))] := hl
  refine lv_iconst (v := 5) hC.x hC.b dX0_kind_0 rfl ?_
  rw [hQ]
  exact e_ir hC hr hH h dX0_kind_1
def f_X1_kind (L : List Nat) (w0 : Nat) : Option Int32 := some (1 : Int32)
set_option maxRecDepth 100000 in
set_option maxHeartbeats 4000000 in
theorem c_X1_kind {l : Launch} {E : State → Prop} {D : va_G} {cy : Nat → ClassId} {ad : Nat → Nat} {L : List Nat} {mem : gMem} {w0 : Nat} {rv : Int32} (hk : gOk ad L) (hL : ∀ o ∈ LX0, o ∈ L) (hE : gEok ad L E) (hw0 : wok L w0) (hkd : wkd w0 = 1 ∨ wkd w0 = 4) (h : f_X1_kind L w0 = some rv) : gMet l yX1_kind cX1_kind 1 (some .int) 0 0 E D cy shX ad L [.ref (ad w0)] mem mem (some (.int rv)) := by
  refine g_go (own := RX1) (by decide +kernel) rfl hE (Nat.le_of_ble_eq_true rfl) ?_
  intro p e s m args below meth c R Q hargs hR hQ hEs hC hr hX H locs ls hH hl
  have hF := gF_of hk
  have hl : lv_has ls 1 [(0, .ref (ad w0))] := hl
  refine lv_iconst (v := 1) hC.x hC.b dX1_kind_0 rfl ?_
  rw [hQ]
  exact e_ir hC hr hH h dX1_kind_1
theorem fk_X1_7 {j : Nat} (h : j = 1 ∨ j = 4) : gFl RX1 7 (kci j) 1 := by
  rcases h with rfl | rfl
  · exact ⟨RX1, TX1, 6, "OnTiptoe$Heavy", rfl, inW1, by decide, kw346, Or.inr kw347⟩
  · exact ⟨RX7, TX7, 6, "OnTiptoe$Heavy", rfl, inW7, by decide, kw346, Or.inr kw347⟩
def f_X1_noise (L : List Nat) (mem : gMem) (w0 : Nat) (p0 : Int32) (p1 : Int32) : Option Int32 := some (p0 + (gI mem w0 1))
set_option maxRecDepth 100000 in
set_option maxHeartbeats 4000000 in
theorem c_X1_noise {l : Launch} {E : State → Prop} {D : va_G} {cy : Nat → ClassId} {ad : Nat → Nat} {L : List Nat} {mem : gMem} {w0 : Nat} {p0 : Int32} {p1 : Int32} {rv : Int32} (hk : gOk ad L) (hL : ∀ o ∈ LX0, o ∈ L) (hE : gEok ad L E) (hw0 : wok L w0) (hkd : wkd w0 = 1 ∨ wkd w0 = 4) (h : f_X1_noise L mem w0 p0 p1 = some rv) : gMet l yX1_noise cX1_noise 3 (some .int) 0 0 E D cy shX ad L [.ref (ad w0), .int p0, .int p1] mem mem (some (.int rv)) := by
  refine g_go (own := RX1) (by decide +kernel) rfl hE (Nat.le_of_ble_eq_true rfl) ?_
  intro p e s m args below meth c R Q hargs hR hQ hEs hC hr hX H locs ls hH hl
  have hF := gF_of hk
  have hl : lv_has ls 3 [(0, .ref (ad w0)), (1, .int p0), (2, .int p1)] := hl
  refine lv_iload_n hC.x hC.b dX1_noise_0 rfl (lv_at hl 1 rfl) ?_
  refine lv_aload_n hC.x hC.b dX1_noise_1 rfl (lv_at hl 0 rfl) ?_
  refine r_geti hC hH (fk_X1_7 hkd) hw0.2.2.2.1 (sW0 hw0) rfl dX1_noise_2 ?_
  refine lv_iadd hC.x hC.b dX1_noise_5 ?_
  rw [hQ]
  exact e_ir hC hr hH h dX1_noise_6
theorem fl_X2_9_2 : gFl RX2 9 2 0 := ⟨RX2, TX2, 17, "OnTiptoe$House", rfl, inW2, by decide, kw43, Or.inl rfl⟩
theorem fl_X2_43_2 : gFl RX2 43 2 1 := ⟨RX2, TX2, 17, "OnTiptoe$House", rfl, inW2, by decide, kw180, Or.inl rfl⟩
theorem pl_X2_43_2 : gPl RX2 43 2 1 "I" := ⟨RX2, TX2, 17, tyX2, "OnTiptoe$House", rfl, inW2, tyX2_ok, nmX2, by decide, kw180, Or.inl rfl, rfl, rfl⟩
theorem fl_X2_15_2 : gFl RX2 15 2 2 := ⟨RX2, TX2, 17, "OnTiptoe$House", rfl, inW2, by decide, kw44, Or.inl rfl⟩
theorem pl_X2_15_2 : gPl RX2 15 2 2 "I" := ⟨RX2, TX2, 17, tyX2, "OnTiptoe$House", rfl, inW2, tyX2_ok, nmX2, by decide, kw44, Or.inl rfl, rfl, rfl⟩
theorem fl_X2_46_2 : gFl RX2 46 2 3 := ⟨RX2, TX2, 17, "OnTiptoe$House", rfl, inW2, by decide, kw1070, Or.inl rfl⟩
theorem pl_X2_46_2 : gPl RX2 46 2 3 "I" := ⟨RX2, TX2, 17, tyX2, "OnTiptoe$House", rfl, inW2, tyX2_ok, nmX2, by decide, kw1070, Or.inl rfl, rfl, rfl⟩
theorem fl_X2_49_2 : gFl RX2 49 2 4 := ⟨RX2, TX2, 17, "OnTiptoe$House", rfl, inW2, by decide, kw987, Or.inl rfl⟩
theorem pl_X2_49_2 : gPl RX2 49 2 4 "I" := ⟨RX2, TX2, 17, tyX2, "OnTiptoe$House", rfl, inW2, tyX2_ok, nmX2, by decide, kw987, Or.inl rfl, rfl, rfl⟩
theorem fl_X2_52_2 : gFl RX2 52 2 5 := ⟨RX2, TX2, 17, "OnTiptoe$House", rfl, inW2, by decide, kw1071, Or.inl rfl⟩
theorem pl_X2_52_2 : gPl RX2 52 2 5 "I" := ⟨RX2, TX2, 17, tyX2, "OnTiptoe$House", rfl, inW2, tyX2_ok, nmX2, by decide, kw1071, Or.inl rfl, rfl, rfl⟩
theorem fl_X2_55_2 : gFl RX2 55 2 6 := ⟨RX2, TX2, 17, "OnTiptoe$House", rfl, inW2, by decide, kw1072, Or.inl rfl⟩
theorem pl_X2_55_2 : gPl RX2 55 2 6 "Z" := ⟨RX2, TX2, 17, tyX2, "OnTiptoe$House", rfl, inW2, tyX2_ok, nmX2, by decide, kw1072, Or.inl rfl, rfl, rfl⟩
theorem fl_X2_19_2 : gFl RX2 19 2 7 := ⟨RX2, TX2, 17, "OnTiptoe$House", rfl, inW2, by decide, kw45, Or.inl rfl⟩
theorem fl_X2_59_2 : gFl RX2 59 2 8 := ⟨RX2, TX2, 17, "OnTiptoe$House", rfl, inW2, by decide, kw1073, Or.inl rfl⟩
theorem pl_X2_59_2 : gPl RX2 59 2 8 "I" := ⟨RX2, TX2, 17, tyX2, "OnTiptoe$House", rfl, inW2, tyX2_ok, nmX2, by decide, kw1073, Or.inl rfl, rfl, rfl⟩
theorem fl_X2_22_2 : gFl RX2 22 2 9 := ⟨RX2, TX2, 17, "OnTiptoe$House", rfl, inW2, by decide, kw46, Or.inl rfl⟩
theorem fl_X2_25_2 : gFl RX2 25 2 10 := ⟨RX2, TX2, 17, "OnTiptoe$House", rfl, inW2, by decide, kw47, Or.inl rfl⟩
theorem fl_X2_28_2 : gFl RX2 28 2 11 := ⟨RX2, TX2, 17, "OnTiptoe$House", rfl, inW2, by decide, kw48, Or.inl rfl⟩
theorem fl_X2_62_2 : gFl RX2 62 2 12 := ⟨RX2, TX2, 17, "OnTiptoe$House", rfl, inW2, by decide, kw986, Or.inl rfl⟩
theorem pl_X2_62_2 : gPl RX2 62 2 12 "I" := ⟨RX2, TX2, 17, tyX2, "OnTiptoe$House", rfl, inW2, tyX2_ok, nmX2, by decide, kw986, Or.inl rfl, rfl, rfl⟩
theorem fl_X2_31_2 : gFl RX2 31 2 13 := ⟨RX2, TX2, 17, "OnTiptoe$House", rfl, inW2, by decide, kw49, Or.inl rfl⟩
theorem fl_X2_65_2 : gFl RX2 65 2 14 := ⟨RX2, TX2, 17, "OnTiptoe$House", rfl, inW2, by decide, kw1074, Or.inl rfl⟩
theorem pl_X2_65_2 : gPl RX2 65 2 14 "I" := ⟨RX2, TX2, 17, tyX2, "OnTiptoe$House", rfl, inW2, tyX2_ok, nmX2, by decide, kw1074, Or.inl rfl, rfl, rfl⟩
theorem fl_X2_68_2 : gFl RX2 68 2 15 := ⟨RX2, TX2, 17, "OnTiptoe$House", rfl, inW2, by decide, kw307, Or.inl rfl⟩
theorem pl_X2_68_2 : gPl RX2 68 2 15 "LOnTiptoe$Night;" := ⟨RX2, TX2, 17, tyX2, "OnTiptoe$House", rfl, inW2, tyX2_ok, nmX2, by decide, kw307, Or.inl rfl, rfl, rfl⟩
def f_X2_takeFromN (L : List Nat) (mem : gMem) : Option gMem := lt1 (gcp mem 21 11 12) fun (m1 : gMem) => lt1 (gsI m1 10 1 (gI m1 20 1)) fun (m2 : gMem) => lt1 (gsI m2 10 2 (gI m2 20 2)) fun (m3 : gMem) => lt1 (gsI m3 10 3 (gI m3 20 3)) fun (m4 : gMem) => lt1 (gsI m4 10 4 (gI m4 20 4)) fun (m5 : gMem) => lt1 (gsI m5 10 5 (gI m5 20 5)) fun (m6 : gMem) => if isB (gI m6 20 6) then lt1 (gsI m6 10 6 (gI m6 20 6)) fun (m7 : gMem) => lt1 (gcp m7 22 12 12) fun (m8 : gMem) => lt1 (gsI m8 10 8 (gI m8 20 8)) fun (m9 : gMem) => lt1 (gcp m9 23 13 6) fun (m10 : gMem) => lt1 (gcp m10 24 14 6) fun (m11 : gMem) => lt1 (gcp m11 25 15 6) fun (m12 : gMem) => lt1 (gsI m12 10 12 (gI m12 20 12)) fun (m13 : gMem) => lt1 (gcp m13 26 16 12) fun (m14 : gMem) => lt1 (gsI m14 10 14 (gI m14 20 14)) fun (m15 : gMem) => lt1 (gsR m15 10 15 (gR m15 20 15)) fun (m16 : gMem) => some m16 else none
set_option maxRecDepth 100000 in
set_option maxHeartbeats 4000000 in
theorem c_X2_takeFromN {l : Launch} {E : State → Prop} {D : va_G} {cy : Nat → ClassId} {ad : Nat → Nat} {L : List Nat} {mem : gMem} {memz : gMem} (hk : gOk ad L) (hL : ∀ o ∈ LX0, o ∈ L) (hE : gEok ad L E)  (h : f_X2_takeFromN L mem = some memz) : gMet l yX2_takeFrom cX2_takeFrom 2 none 1 60 E D cy shX ad L [.ref (ad 10), .ref (ad 20)] mem memz none := by
  refine g_go (own := RX2) (by decide +kernel) rfl hE (Nat.le_of_ble_eq_true rfl) ?_
  intro p e s m args below meth c R Q hargs hR hQ hEs hC hr hX H locs ls hH hl
  have hF := gF_of hk
  have hl : lv_has ls 2 [(0, .ref (ad 10)), (1, .ref (ad 20))] := hl
  refine lv_aload_n hC.x hC.b dX2_takeFrom_0 rfl (lv_at hl 1 rfl) ?_
  refine r_getc (z := 21) hC hH fl_X2_9_2 (hL _ mX20) sX20 rfl dX2_takeFrom_1 ?_
  refine lv_iconst (v := 0) hC.x hC.b dX2_takeFrom_4 rfl ?_
  refine lv_aload_n hC.x hC.b dX2_takeFrom_5 rfl (lv_at hl 0 rfl) ?_
  refine r_getc (z := 11) hC hH fl_X2_9_2 (hL _ mX10) sX10 rfl dX2_takeFrom_6 ?_
  refine lv_iconst (v := 0) hC.x hC.b dX2_takeFrom_9 rfl ?_
  refine lv_bipush (v := 12) hC.x hC.b dX2_takeFrom_10 rfl ?_
  refine r_copy (n := 12) hC hF hH hl.1 kw1066 kw1067 kw1068 kw1069 (hL _ mX21) (hL _ mX11) sX21 sX11 rfl (by decide) (by decide) (by decide) (rmC hR (by decide) (Nat.le_of_ble_eq_true rfl)) h dX2_takeFrom_12 (fun m1 H locs h hH => ?_)
  refine lv_aload_n hC.x hC.b dX2_takeFrom_15 rfl (lv_at hl 0 rfl) ?_
  refine lv_aload_n hC.x hC.b dX2_takeFrom_16 rfl (lv_at hl 1 rfl) ?_
  refine r_geti hC hH fl_X2_43_2 (hL _ mX20) sX20 rfl dX2_takeFrom_17 ?_
  refine r_puti hC hF hH pl_X2_43_2 (hL _ mX10) sX10 rfl h dX2_takeFrom_20 (fun m2 H locs h hH => ?_)
  refine lv_aload_n hC.x hC.b dX2_takeFrom_23 rfl (lv_at hl 0 rfl) ?_
  refine lv_aload_n hC.x hC.b dX2_takeFrom_24 rfl (lv_at hl 1 rfl) ?_
  refine r_geti hC hH fl_X2_15_2 (hL _ mX20) sX20 rfl dX2_takeFrom_25 ?_
  refine r_puti hC hF hH pl_X2_15_2 (hL _ mX10) sX10 rfl h dX2_takeFrom_28 (fun m3 H locs h hH => ?_)
  refine lv_aload_n hC.x hC.b dX2_takeFrom_31 rfl (lv_at hl 0 rfl) ?_
  refine lv_aload_n hC.x hC.b dX2_takeFrom_32 rfl (lv_at hl 1 rfl) ?_
  refine r_geti hC hH fl_X2_46_2 (hL _ mX20) sX20 rfl dX2_takeFrom_33 ?_
  refine r_puti hC hF hH pl_X2_46_2 (hL _ mX10) sX10 rfl h dX2_takeFrom_36 (fun m4 H locs h hH => ?_)
  refine lv_aload_n hC.x hC.b dX2_takeFrom_39 rfl (lv_at hl 0 rfl) ?_
  refine lv_aload_n hC.x hC.b dX2_takeFrom_40 rfl (lv_at hl 1 rfl) ?_
  refine r_geti hC hH fl_X2_49_2 (hL _ mX20) sX20 rfl dX2_takeFrom_41 ?_
  refine r_puti hC hF hH pl_X2_49_2 (hL _ mX10) sX10 rfl h dX2_takeFrom_44 (fun m5 H locs h hH => ?_)
  refine lv_aload_n hC.x hC.b dX2_takeFrom_47 rfl (lv_at hl 0 rfl) ?_
  refine lv_aload_n hC.x hC.b dX2_takeFrom_48 rfl (lv_at hl 1 rfl) ?_
  refine r_geti hC hH fl_X2_52_2 (hL _ mX20) sX20 rfl dX2_takeFrom_49 ?_
  refine r_puti hC hF hH pl_X2_52_2 (hL _ mX10) sX10 rfl h dX2_takeFrom_52 (fun m6 H locs h hH => ?_)
  refine lv_aload_n hC.x hC.b dX2_takeFrom_55 rfl (lv_at hl 0 rfl) ?_
  refine lv_aload_n hC.x hC.b dX2_takeFrom_56 rfl (lv_at hl 1 rfl) ?_
  refine r_geti hC hH fl_X2_55_2 (hL _ mX20) sX20 rfl dX2_takeFrom_57 ?_
  refine r_putz hC hF hH pl_X2_55_2 (hL _ mX10) sX10 rfl h dX2_takeFrom_60 (fun m7 H locs h hH => ?_)
  refine lv_aload_n hC.x hC.b dX2_takeFrom_63 rfl (lv_at hl 1 rfl) ?_
  refine r_getc (z := 22) hC hH fl_X2_19_2 (hL _ mX20) sX20 rfl dX2_takeFrom_64 ?_
  refine lv_iconst (v := 0) hC.x hC.b dX2_takeFrom_67 rfl ?_
  refine lv_aload_n hC.x hC.b dX2_takeFrom_68 rfl (lv_at hl 0 rfl) ?_
  refine r_getc (z := 12) hC hH fl_X2_19_2 (hL _ mX10) sX10 rfl dX2_takeFrom_69 ?_
  refine lv_iconst (v := 0) hC.x hC.b dX2_takeFrom_72 rfl ?_
  refine lv_bipush (v := 12) hC.x hC.b dX2_takeFrom_73 rfl ?_
  refine r_copy (n := 12) hC hF hH hl.1 kw1066 kw1067 kw1068 kw1069 (hL _ mX22) (hL _ mX12) sX22 sX12 rfl (by decide) (by decide) (by decide) (rmC hR (by decide) (Nat.le_of_ble_eq_true rfl)) h dX2_takeFrom_75 (fun m8 H locs h hH => ?_)
  refine lv_aload_n hC.x hC.b dX2_takeFrom_78 rfl (lv_at hl 0 rfl) ?_
  refine lv_aload_n hC.x hC.b dX2_takeFrom_79 rfl (lv_at hl 1 rfl) ?_
  refine r_geti hC hH fl_X2_59_2 (hL _ mX20) sX20 rfl dX2_takeFrom_80 ?_
  refine r_puti hC hF hH pl_X2_59_2 (hL _ mX10) sX10 rfl h dX2_takeFrom_83 (fun m9 H locs h hH => ?_)
  refine lv_aload_n hC.x hC.b dX2_takeFrom_86 rfl (lv_at hl 1 rfl) ?_
  refine r_getc (z := 23) hC hH fl_X2_22_2 (hL _ mX20) sX20 rfl dX2_takeFrom_87 ?_
  refine lv_iconst (v := 0) hC.x hC.b dX2_takeFrom_90 rfl ?_
  refine lv_aload_n hC.x hC.b dX2_takeFrom_91 rfl (lv_at hl 0 rfl) ?_
  refine r_getc (z := 13) hC hH fl_X2_22_2 (hL _ mX10) sX10 rfl dX2_takeFrom_92 ?_
  refine lv_iconst (v := 0) hC.x hC.b dX2_takeFrom_95 rfl ?_
  refine lv_bipush (v := 6) hC.x hC.b dX2_takeFrom_96 rfl ?_
  refine r_copy (n := 6) hC hF hH hl.1 kw1066 kw1067 kw1068 kw1069 (hL _ mX23) (hL _ mX13) sX23 sX13 rfl (by decide) (by decide) (by decide) (rmC hR (by decide) (Nat.le_of_ble_eq_true rfl)) h dX2_takeFrom_98 (fun m10 H locs h hH => ?_)
  refine lv_aload_n hC.x hC.b dX2_takeFrom_101 rfl (lv_at hl 1 rfl) ?_
  refine r_getc (z := 24) hC hH fl_X2_25_2 (hL _ mX20) sX20 rfl dX2_takeFrom_102 ?_
  refine lv_iconst (v := 0) hC.x hC.b dX2_takeFrom_105 rfl ?_
  refine lv_aload_n hC.x hC.b dX2_takeFrom_106 rfl (lv_at hl 0 rfl) ?_
  refine r_getc (z := 14) hC hH fl_X2_25_2 (hL _ mX10) sX10 rfl dX2_takeFrom_107 ?_
  refine lv_iconst (v := 0) hC.x hC.b dX2_takeFrom_110 rfl ?_
  refine lv_bipush (v := 6) hC.x hC.b dX2_takeFrom_111 rfl ?_
  refine r_copy (n := 6) hC hF hH hl.1 kw1066 kw1067 kw1068 kw1069 (hL _ mX24) (hL _ mX14) sX24 sX14 rfl (by decide) (by decide) (by decide) (rmC hR (by decide) (Nat.le_of_ble_eq_true rfl)) h dX2_takeFrom_113 (fun m11 H locs h hH => ?_)
  refine lv_aload_n hC.x hC.b dX2_takeFrom_116 rfl (lv_at hl 1 rfl) ?_
  refine r_getc (z := 25) hC hH fl_X2_28_2 (hL _ mX20) sX20 rfl dX2_takeFrom_117 ?_
  refine lv_iconst (v := 0) hC.x hC.b dX2_takeFrom_120 rfl ?_
  refine lv_aload_n hC.x hC.b dX2_takeFrom_121 rfl (lv_at hl 0 rfl) ?_
  refine r_getc (z := 15) hC hH fl_X2_28_2 (hL _ mX10) sX10 rfl dX2_takeFrom_122 ?_
  refine lv_iconst (v := 0) hC.x hC.b dX2_takeFrom_125 rfl ?_
  refine lv_bipush (v := 6) hC.x hC.b dX2_takeFrom_126 rfl ?_
  refine r_copy (n := 6) hC hF hH hl.1 kw1066 kw1067 kw1068 kw1069 (hL _ mX25) (hL _ mX15) sX25 sX15 rfl (by decide) (by decide) (by decide) (rmC hR (by decide) (Nat.le_of_ble_eq_true rfl)) h dX2_takeFrom_128 (fun m12 H locs h hH => ?_)
  refine lv_aload_n hC.x hC.b dX2_takeFrom_131 rfl (lv_at hl 0 rfl) ?_
  refine lv_aload_n hC.x hC.b dX2_takeFrom_132 rfl (lv_at hl 1 rfl) ?_
  refine r_geti hC hH fl_X2_62_2 (hL _ mX20) sX20 rfl dX2_takeFrom_133 ?_
  refine r_puti hC hF hH pl_X2_62_2 (hL _ mX10) sX10 rfl h dX2_takeFrom_136 (fun m13 H locs h hH => ?_)
  refine lv_aload_n hC.x hC.b dX2_takeFrom_139 rfl (lv_at hl 1 rfl) ?_
  refine r_getc (z := 26) hC hH fl_X2_31_2 (hL _ mX20) sX20 rfl dX2_takeFrom_140 ?_
  refine lv_iconst (v := 0) hC.x hC.b dX2_takeFrom_143 rfl ?_
  refine lv_aload_n hC.x hC.b dX2_takeFrom_144 rfl (lv_at hl 0 rfl) ?_
  refine r_getc (z := 16) hC hH fl_X2_31_2 (hL _ mX10) sX10 rfl dX2_takeFrom_145 ?_
  refine lv_iconst (v := 0) hC.x hC.b dX2_takeFrom_148 rfl ?_
  refine lv_bipush (v := 12) hC.x hC.b dX2_takeFrom_149 rfl ?_
  refine r_copy (n := 12) hC hF hH hl.1 kw1066 kw1067 kw1068 kw1069 (hL _ mX26) (hL _ mX16) sX26 sX16 rfl (by decide) (by decide) (by decide) (rmC hR (by decide) (Nat.le_of_ble_eq_true rfl)) h dX2_takeFrom_151 (fun m14 H locs h hH => ?_)
  refine lv_aload_n hC.x hC.b dX2_takeFrom_154 rfl (lv_at hl 0 rfl) ?_
  refine lv_aload_n hC.x hC.b dX2_takeFrom_155 rfl (lv_at hl 1 rfl) ?_
  refine r_geti hC hH fl_X2_65_2 (hL _ mX20) sX20 rfl dX2_takeFrom_156 ?_
  refine r_puti hC hF hH pl_X2_65_2 (hL _ mX10) sX10 rfl h dX2_takeFrom_159 (fun m15 H locs h hH => ?_)
  refine lv_aload_n hC.x hC.b dX2_takeFrom_162 rfl (lv_at hl 0 rfl) ?_
  refine lv_aload_n hC.x hC.b dX2_takeFrom_163 rfl (lv_at hl 1 rfl) ?_
  refine r_getr hC hH fl_X2_68_2 (hL _ mX20) sX20 rfl dX2_takeFrom_164 ?_
  refine r_putr (x := (gR m15 20 15)) hC hF hH pl_X2_68_2 (hL _ mX10) sX10 rfl (by rfl) rfl h dX2_takeFrom_167 (fun m16 H locs h hH => ?_)
  rw [hQ]
  exact e_v hC hr hH h dX2_takeFrom_170
def f_X2_takeFromI (L : List Nat) (mem : gMem) : Option gMem := lt1 (gcp mem 11 21 12) fun (m1 : gMem) => lt1 (gsI m1 20 1 (gI m1 10 1)) fun (m2 : gMem) => lt1 (gsI m2 20 2 (gI m2 10 2)) fun (m3 : gMem) => lt1 (gsI m3 20 3 (gI m3 10 3)) fun (m4 : gMem) => lt1 (gsI m4 20 4 (gI m4 10 4)) fun (m5 : gMem) => lt1 (gsI m5 20 5 (gI m5 10 5)) fun (m6 : gMem) => if isB (gI m6 10 6) then lt1 (gsI m6 20 6 (gI m6 10 6)) fun (m7 : gMem) => lt1 (gcp m7 12 22 12) fun (m8 : gMem) => lt1 (gsI m8 20 8 (gI m8 10 8)) fun (m9 : gMem) => lt1 (gcp m9 13 23 6) fun (m10 : gMem) => lt1 (gcp m10 14 24 6) fun (m11 : gMem) => lt1 (gcp m11 15 25 6) fun (m12 : gMem) => lt1 (gsI m12 20 12 (gI m12 10 12)) fun (m13 : gMem) => lt1 (gcp m13 16 26 12) fun (m14 : gMem) => lt1 (gsI m14 20 14 (gI m14 10 14)) fun (m15 : gMem) => lt1 (gsR m15 20 15 (gR m15 10 15)) fun (m16 : gMem) => some m16 else none
set_option maxRecDepth 100000 in
set_option maxHeartbeats 4000000 in
theorem c_X2_takeFromI {l : Launch} {E : State → Prop} {D : va_G} {cy : Nat → ClassId} {ad : Nat → Nat} {L : List Nat} {mem : gMem} {memz : gMem} (hk : gOk ad L) (hL : ∀ o ∈ LX0, o ∈ L) (hE : gEok ad L E)  (h : f_X2_takeFromI L mem = some memz) : gMet l yX2_takeFrom cX2_takeFrom 2 none 1 60 E D cy shX ad L [.ref (ad 20), .ref (ad 10)] mem memz none := by
  refine g_go (own := RX2) (by decide +kernel) rfl hE (Nat.le_of_ble_eq_true rfl) ?_
  intro p e s m args below meth c R Q hargs hR hQ hEs hC hr hX H locs ls hH hl
  have hF := gF_of hk
  have hl : lv_has ls 2 [(0, .ref (ad 20)), (1, .ref (ad 10))] := hl
  refine lv_aload_n hC.x hC.b dX2_takeFrom_0 rfl (lv_at hl 1 rfl) ?_
  refine r_getc (z := 11) hC hH fl_X2_9_2 (hL _ mX10) sX10 rfl dX2_takeFrom_1 ?_
  refine lv_iconst (v := 0) hC.x hC.b dX2_takeFrom_4 rfl ?_
  refine lv_aload_n hC.x hC.b dX2_takeFrom_5 rfl (lv_at hl 0 rfl) ?_
  refine r_getc (z := 21) hC hH fl_X2_9_2 (hL _ mX20) sX20 rfl dX2_takeFrom_6 ?_
  refine lv_iconst (v := 0) hC.x hC.b dX2_takeFrom_9 rfl ?_
  refine lv_bipush (v := 12) hC.x hC.b dX2_takeFrom_10 rfl ?_
  refine r_copy (n := 12) hC hF hH hl.1 kw1066 kw1067 kw1068 kw1069 (hL _ mX11) (hL _ mX21) sX11 sX21 rfl (by decide) (by decide) (by decide) (rmC hR (by decide) (Nat.le_of_ble_eq_true rfl)) h dX2_takeFrom_12 (fun m1 H locs h hH => ?_)
  refine lv_aload_n hC.x hC.b dX2_takeFrom_15 rfl (lv_at hl 0 rfl) ?_
  refine lv_aload_n hC.x hC.b dX2_takeFrom_16 rfl (lv_at hl 1 rfl) ?_
  refine r_geti hC hH fl_X2_43_2 (hL _ mX10) sX10 rfl dX2_takeFrom_17 ?_
  refine r_puti hC hF hH pl_X2_43_2 (hL _ mX20) sX20 rfl h dX2_takeFrom_20 (fun m2 H locs h hH => ?_)
  refine lv_aload_n hC.x hC.b dX2_takeFrom_23 rfl (lv_at hl 0 rfl) ?_
  refine lv_aload_n hC.x hC.b dX2_takeFrom_24 rfl (lv_at hl 1 rfl) ?_
  refine r_geti hC hH fl_X2_15_2 (hL _ mX10) sX10 rfl dX2_takeFrom_25 ?_
  refine r_puti hC hF hH pl_X2_15_2 (hL _ mX20) sX20 rfl h dX2_takeFrom_28 (fun m3 H locs h hH => ?_)
  refine lv_aload_n hC.x hC.b dX2_takeFrom_31 rfl (lv_at hl 0 rfl) ?_
  refine lv_aload_n hC.x hC.b dX2_takeFrom_32 rfl (lv_at hl 1 rfl) ?_
  refine r_geti hC hH fl_X2_46_2 (hL _ mX10) sX10 rfl dX2_takeFrom_33 ?_
  refine r_puti hC hF hH pl_X2_46_2 (hL _ mX20) sX20 rfl h dX2_takeFrom_36 (fun m4 H locs h hH => ?_)
  refine lv_aload_n hC.x hC.b dX2_takeFrom_39 rfl (lv_at hl 0 rfl) ?_
  refine lv_aload_n hC.x hC.b dX2_takeFrom_40 rfl (lv_at hl 1 rfl) ?_
  refine r_geti hC hH fl_X2_49_2 (hL _ mX10) sX10 rfl dX2_takeFrom_41 ?_
  refine r_puti hC hF hH pl_X2_49_2 (hL _ mX20) sX20 rfl h dX2_takeFrom_44 (fun m5 H locs h hH => ?_)
  refine lv_aload_n hC.x hC.b dX2_takeFrom_47 rfl (lv_at hl 0 rfl) ?_
  refine lv_aload_n hC.x hC.b dX2_takeFrom_48 rfl (lv_at hl 1 rfl) ?_
  refine r_geti hC hH fl_X2_52_2 (hL _ mX10) sX10 rfl dX2_takeFrom_49 ?_
  refine r_puti hC hF hH pl_X2_52_2 (hL _ mX20) sX20 rfl h dX2_takeFrom_52 (fun m6 H locs h hH => ?_)
  refine lv_aload_n hC.x hC.b dX2_takeFrom_55 rfl (lv_at hl 0 rfl) ?_
  refine lv_aload_n hC.x hC.b dX2_takeFrom_56 rfl (lv_at hl 1 rfl) ?_
  refine r_geti hC hH fl_X2_55_2 (hL _ mX10) sX10 rfl dX2_takeFrom_57 ?_
  refine r_putz hC hF hH pl_X2_55_2 (hL _ mX20) sX20 rfl h dX2_takeFrom_60 (fun m7 H locs h hH => ?_)
  refine lv_aload_n hC.x hC.b dX2_takeFrom_63 rfl (lv_at hl 1 rfl) ?_
  refine r_getc (z := 12) hC hH fl_X2_19_2 (hL _ mX10) sX10 rfl dX2_takeFrom_64 ?_
  refine lv_iconst (v := 0) hC.x hC.b dX2_takeFrom_67 rfl ?_
  refine lv_aload_n hC.x hC.b dX2_takeFrom_68 rfl (lv_at hl 0 rfl) ?_
  refine r_getc (z := 22) hC hH fl_X2_19_2 (hL _ mX20) sX20 rfl dX2_takeFrom_69 ?_
  refine lv_iconst (v := 0) hC.x hC.b dX2_takeFrom_72 rfl ?_
  refine lv_bipush (v := 12) hC.x hC.b dX2_takeFrom_73 rfl ?_
  refine r_copy (n := 12) hC hF hH hl.1 kw1066 kw1067 kw1068 kw1069 (hL _ mX12) (hL _ mX22) sX12 sX22 rfl (by decide) (by decide) (by decide) (rmC hR (by decide) (Nat.le_of_ble_eq_true rfl)) h dX2_takeFrom_75 (fun m8 H locs h hH => ?_)
  refine lv_aload_n hC.x hC.b dX2_takeFrom_78 rfl (lv_at hl 0 rfl) ?_
  refine lv_aload_n hC.x hC.b dX2_takeFrom_79 rfl (lv_at hl 1 rfl) ?_
  refine r_geti hC hH fl_X2_59_2 (hL _ mX10) sX10 rfl dX2_takeFrom_80 ?_
  refine r_puti hC hF hH pl_X2_59_2 (hL _ mX20) sX20 rfl h dX2_takeFrom_83 (fun m9 H locs h hH => ?_)
  refine lv_aload_n hC.x hC.b dX2_takeFrom_86 rfl (lv_at hl 1 rfl) ?_
  refine r_getc (z := 13) hC hH fl_X2_22_2 (hL _ mX10) sX10 rfl dX2_takeFrom_87 ?_
  refine lv_iconst (v := 0) hC.x hC.b dX2_takeFrom_90 rfl ?_
  refine lv_aload_n hC.x hC.b dX2_takeFrom_91 rfl (lv_at hl 0 rfl) ?_
  refine r_getc (z := 23) hC hH fl_X2_22_2 (hL _ mX20) sX20 rfl dX2_takeFrom_92 ?_
  refine lv_iconst (v := 0) hC.x hC.b dX2_takeFrom_95 rfl ?_
  refine lv_bipush (v := 6) hC.x hC.b dX2_takeFrom_96 rfl ?_
  refine r_copy (n := 6) hC hF hH hl.1 kw1066 kw1067 kw1068 kw1069 (hL _ mX13) (hL _ mX23) sX13 sX23 rfl (by decide) (by decide) (by decide) (rmC hR (by decide) (Nat.le_of_ble_eq_true rfl)) h dX2_takeFrom_98 (fun m10 H locs h hH => ?_)
  refine lv_aload_n hC.x hC.b dX2_takeFrom_101 rfl (lv_at hl 1 rfl) ?_
  refine r_getc (z := 14) hC hH fl_X2_25_2 (hL _ mX10) sX10 rfl dX2_takeFrom_102 ?_
  refine lv_iconst (v := 0) hC.x hC.b dX2_takeFrom_105 rfl ?_
  refine lv_aload_n hC.x hC.b dX2_takeFrom_106 rfl (lv_at hl 0 rfl) ?_
  refine r_getc (z := 24) hC hH fl_X2_25_2 (hL _ mX20) sX20 rfl dX2_takeFrom_107 ?_
  refine lv_iconst (v := 0) hC.x hC.b dX2_takeFrom_110 rfl ?_
  refine lv_bipush (v := 6) hC.x hC.b dX2_takeFrom_111 rfl ?_
  refine r_copy (n := 6) hC hF hH hl.1 kw1066 kw1067 kw1068 kw1069 (hL _ mX14) (hL _ mX24) sX14 sX24 rfl (by decide) (by decide) (by decide) (rmC hR (by decide) (Nat.le_of_ble_eq_true rfl)) h dX2_takeFrom_113 (fun m11 H locs h hH => ?_)
  refine lv_aload_n hC.x hC.b dX2_takeFrom_116 rfl (lv_at hl 1 rfl) ?_
  refine r_getc (z := 15) hC hH fl_X2_28_2 (hL _ mX10) sX10 rfl dX2_takeFrom_117 ?_
  refine lv_iconst (v := 0) hC.x hC.b dX2_takeFrom_120 rfl ?_
  refine lv_aload_n hC.x hC.b dX2_takeFrom_121 rfl (lv_at hl 0 rfl) ?_
  refine r_getc (z := 25) hC hH fl_X2_28_2 (hL _ mX20) sX20 rfl dX2_takeFrom_122 ?_
  refine lv_iconst (v := 0) hC.x hC.b dX2_takeFrom_125 rfl ?_
  refine lv_bipush (v := 6) hC.x hC.b dX2_takeFrom_126 rfl ?_
  refine r_copy (n := 6) hC hF hH hl.1 kw1066 kw1067 kw1068 kw1069 (hL _ mX15) (hL _ mX25) sX15 sX25 rfl (by decide) (by decide) (by decide) (rmC hR (by decide) (Nat.le_of_ble_eq_true rfl)) h dX2_takeFrom_128 (fun m12 H locs h hH => ?_)
  refine lv_aload_n hC.x hC.b dX2_takeFrom_131 rfl (lv_at hl 0 rfl) ?_
  refine lv_aload_n hC.x hC.b dX2_takeFrom_132 rfl (lv_at hl 1 rfl) ?_
  refine r_geti hC hH fl_X2_62_2 (hL _ mX10) sX10 rfl dX2_takeFrom_133 ?_
  refine r_puti hC hF hH pl_X2_62_2 (hL _ mX20) sX20 rfl h dX2_takeFrom_136 (fun m13 H locs h hH => ?_)
  refine lv_aload_n hC.x hC.b dX2_takeFrom_139 rfl (lv_at hl 1 rfl) ?_
  refine r_getc (z := 16) hC hH fl_X2_31_2 (hL _ mX10) sX10 rfl dX2_takeFrom_140 ?_
  refine lv_iconst (v := 0) hC.x hC.b dX2_takeFrom_143 rfl ?_
  refine lv_aload_n hC.x hC.b dX2_takeFrom_144 rfl (lv_at hl 0 rfl) ?_
  refine r_getc (z := 26) hC hH fl_X2_31_2 (hL _ mX20) sX20 rfl dX2_takeFrom_145 ?_
  refine lv_iconst (v := 0) hC.x hC.b dX2_takeFrom_148 rfl ?_
  refine lv_bipush (v := 12) hC.x hC.b dX2_takeFrom_149 rfl ?_
  refine r_copy (n := 12) hC hF hH hl.1 kw1066 kw1067 kw1068 kw1069 (hL _ mX16) (hL _ mX26) sX16 sX26 rfl (by decide) (by decide) (by decide) (rmC hR (by decide) (Nat.le_of_ble_eq_true rfl)) h dX2_takeFrom_151 (fun m14 H locs h hH => ?_)
  refine lv_aload_n hC.x hC.b dX2_takeFrom_154 rfl (lv_at hl 0 rfl) ?_
  refine lv_aload_n hC.x hC.b dX2_takeFrom_155 rfl (lv_at hl 1 rfl) ?_
  refine r_geti hC hH fl_X2_65_2 (hL _ mX10) sX10 rfl dX2_takeFrom_156 ?_
  refine r_puti hC hF hH pl_X2_65_2 (hL _ mX20) sX20 rfl h dX2_takeFrom_159 (fun m15 H locs h hH => ?_)
  refine lv_aload_n hC.x hC.b dX2_takeFrom_162 rfl (lv_at hl 0 rfl) ?_
  refine lv_aload_n hC.x hC.b dX2_takeFrom_163 rfl (lv_at hl 1 rfl) ?_
  refine r_getr hC hH fl_X2_68_2 (hL _ mX10) sX10 rfl dX2_takeFrom_164 ?_
  refine r_putr (x := (gR m15 10 15)) hC hF hH pl_X2_68_2 (hL _ mX20) sX20 rfl (by rfl) rfl h dX2_takeFrom_167 (fun m16 H locs h hH => ?_)
  rw [hQ]
  exact e_v hC hr hH h dX2_takeFrom_170
def f_X2_toyOn (L : List Nat) (mem : gMem) (p0 : Int32) : Option Int32 := some (((gI mem 10 1) >>> (p0 &&& 31)) &&& (1 : Int32))
set_option maxRecDepth 100000 in
set_option maxHeartbeats 4000000 in
theorem c_X2_toyOn {l : Launch} {E : State → Prop} {D : va_G} {cy : Nat → ClassId} {ad : Nat → Nat} {L : List Nat} {mem : gMem} {p0 : Int32} {rv : Int32} (hk : gOk ad L) (hL : ∀ o ∈ LX0, o ∈ L) (hE : gEok ad L E)  (h : f_X2_toyOn L mem p0 = some rv) : gMet l yX2_toyOn cX2_toyOn 2 (some .int) 0 0 E D cy shX ad L [.ref (ad 10), .int p0] mem mem (some (.int rv)) := by
  refine g_go (own := RX2) (by decide +kernel) rfl hE (Nat.le_of_ble_eq_true rfl) ?_
  intro p e s m args below meth c R Q hargs hR hQ hEs hC hr hX H locs ls hH hl
  have hF := gF_of hk
  have hl : lv_has ls 2 [(0, .ref (ad 10)), (1, .int p0)] := hl
  refine lv_aload_n hC.x hC.b dX2_toyOn_0 rfl (lv_at hl 0 rfl) ?_
  refine r_geti hC hH fl_X2_43_2 (hL _ mX10) sX10 rfl dX2_toyOn_1 ?_
  refine lv_iload_n hC.x hC.b dX2_toyOn_4 rfl (lv_at hl 1 rfl) ?_
  refine lv_ishr hC.x hC.b dX2_toyOn_5 ?_
  refine lv_iconst (v := 1) hC.x hC.b dX2_toyOn_6 rfl ?_
  refine lv_iand hC.x hC.b dX2_toyOn_7 ?_
  rw [hQ]
  exact e_ir hC hr hH h dX2_toyOn_8

def s_X12_away_28 (j5 : Int32 → gMem → Option (Int32 × gMem)) (x4 : Int32) (p0 : Int32) (self6 : Int32 → Int32 → Int32 → gMem → Option (Int32 × gMem)) (x7 : Int32) (x8 : Int32) (x9 : Int32) (m10 : gMem) : Option (Int32 × gMem) := if (12 : Int32) ≤ x9 then ((j5 x8 m10)) else bd (f_X12_has x4 x9) fun (x11 : Int32) => jn ((fun (x17 : Int32) (x18 : Int32) (m19 : gMem) => lt1 (x9 + (1 : Int32)) fun (x20 : Int32) => (self6 x17 x18 x20 m19)) : Int32 → Int32 → gMem → Option (Int32 × gMem)) fun j12 => if x11 = 0 then ((j12 x7 x8 m10)) else lt1 (gsI m10 0 3 (x4 &&& (((1 : Int32) <<< (x9 &&& 31)) ^^^ (-1 : Int32)))) fun (m13 : gMem) => bd2 (f_X12_outNow m13 p0) fun (x15 : Int32) (m14 : gMem) => if x15 < 0 then ((j12 x7 x8 m14)) else jn (((j12 x15 x9 m14)) : Option (Int32 × gMem)) fun j16 => if x7 < 0 then (j16) else if x15 < x7 then (j16) else (j12 x7 x8 m14)
def f_X12_away (mem : gMem) (p0 : Int32) : Option (Int32 × gMem) := bd (f_X12_isWalker mem p0) fun (x1 : Int32) => if x1 = 0 then (some ((-1 : Int32), mem)) else bd2 (f_X12_outNow mem p0) fun (x3 : Int32) (m2 : gMem) => lt1 (gI m2 0 3) fun (x4 : Int32) => jn ((fun (x21 : Int32) (m22 : gMem) => lt1 (gsI m22 0 3 x4) fun (m23 : gMem) => some (x21, m23)) : Int32 → gMem → Option (Int32 × gMem)) fun j5 => lq4 (s_X12_away_28 j5 x4 p0) 1000 x3 (-5 : Int32) (0 : Int32) m2
set_option maxRecDepth 100000 in
set_option maxHeartbeats 4000000 in
theorem c_X12_away {l : Launch} {E : State → Prop} {D : va_G} {cy : Nat → ClassId} {ad : Nat → Nat} {L : List Nat} {mem : gMem} {p0 : Int32} {rv : Int32} {memz : gMem} (hk : gOk ad L) (hL : ∀ o ∈ LM0, o ∈ L) (hE : gEok ad L E)  (h : f_X12_away mem p0 = some (rv, memz)) : gMet l yX12_away cX12_away 7 (some .int) 8 204 E D cy shM ad L [.ref (ad 0), .int p0] mem memz (some (.int rv)) := by
  refine g_go (own := RX12) (by decide +kernel) rfl hE (Nat.le_of_ble_eq_true rfl) ?_
  intro p e s m args below meth c R Q hargs hR hQ hEs hC hr hX H locs ls hH hl
  have hF := gF_of hk
  have hl : lv_has ls 7 [(0, .ref (ad 0)), (1, .int p0)] := hl
  refine lv_aload_n hC.x hC.b dX12_away_0 rfl (lv_at hl 0 rfl) ?_
  refine lv_iload_n hC.x hC.b dX12_away_1 rfl (lv_at hl 1 rfl) ?_
  obtain ⟨x1, hf1, h⟩ := bd_e h
  refine c_V1 (As := [.int p0]) (rest := []) (o := 0) (q := (RX12, TX12, 74)) hC hX hE.2.1 hF hH (c_X12_isWalker (l := l) hk hL hE hf1) kw376 kw377 kw378 kw5 kw379 a_X12_isWalker.1 a_X12_isWalker.2 (hL _ mM0) sM0 rfl rfl hl.1 (rmk hR (by decide) (by decide)) (Nat.le_of_ble_eq_true rfl) dX12_away_2 (fun H locs hH => ?_)
  refine b_if_ne (tgt := 10) hC dX12_away_5 (by decide) h (fun h => ?_) (fun h => ?_)
  · refine lv_aload_n hC.x hC.b dX12_away_10 rfl (lv_at hl 0 rfl) ?_
    refine lv_iload_n hC.x hC.b dX12_away_11 rfl (lv_at hl 1 rfl) ?_
    obtain ⟨x3, m2, hf3, h⟩ := bd2_e h
    refine c_V1 (As := [.int p0]) (rest := []) (o := 0) (q := (RX12, TX12, 74)) hC hX hE.2.1 hF hH (c_X12_outNow (l := l) hk hL hE hf3) kw865 kw866 kw867 kw5 kw868 a_X12_outNow.1 a_X12_outNow.2 (hL _ mM0) sM0 rfl rfl hl.1 (rmk hR (by decide) (by decide)) (Nat.le_of_ble_eq_true rfl) dX12_away_12 (fun H locs hH => ?_)
    refine lv_istore_n (lv' := [(2, .int x3), (0, .ref (ad 0)), (1, .int p0)]) hC.x hC.b dX12_away_15 rfl hl (by decide) rfl (fun ls hl => ?_)
    refine lv_bipush (v := -5) hC.x hC.b dX12_away_16 rfl ?_
    refine lv_istore_n (lv' := [(3, .int (-5 : Int32)), (2, .int x3), (0, .ref (ad 0)), (1, .int p0)]) hC.x hC.b dX12_away_18 rfl hl (by decide) rfl (fun ls hl => ?_)
    refine lv_aload_n hC.x hC.b dX12_away_19 rfl (lv_at hl 2 rfl) ?_
    refine r_geti hC hH fl_X12_19_12 (hL _ mM0) sM0 rfl dX12_away_20 ?_
    refine n_i h (fun x4 h => ?_)
    refine lv_istore (lv' := [(4, .int x4), (3, .int (-5 : Int32)), (2, .int x3), (0, .ref (ad 0)), (1, .int p0)]) hC.x hC.b dX12_away_23 hl (by decide) rfl (fun ls hl => ?_)
    refine lv_iconst (v := 0) hC.x hC.b dX12_away_25 rfl ?_
    refine lv_istore (lv' := [(5, .int (0 : Int32)), (4, .int x4), (3, .int (-5 : Int32)), (2, .int x3), (0, .ref (ad 0)), (1, .int p0)]) hC.x hC.b dX12_away_26 hl (by decide) rfl (fun ls hl => ?_)
    obtain ⟨j5, ej5, h⟩ := jn_e h
    have hj5 : ∀ (x21 : Int32) (m22 : gMem) (H : Heap) (locs : List Loc) (ls : Array Slot), (j5 x21 m22) = some (rv, memz) → gH D cy shM ad L (gA ad L) s.heap m22 H locs → lv_has ls 7 [(0, .ref (ad 0)), (3, .int x21), (4, .int x4)] → W p l e R s m args below meth c H locs 0 0 Q (F0 m 99 ls []) := by
      intro x21 m22 H locs ls h hH hl
      have h := ap2 ej5 h
      refine lv_aload_n hC.x hC.b dX12_away_99 rfl (lv_at hl 0 rfl) ?_
      refine lv_iload hC.x hC.b dX12_away_100 (lv_at hl 2 rfl) ?_
      refine r_puti hC hF hH pl_X12_19_12 (hL _ mM0) sM0 rfl h dX12_away_102 (fun m23 H locs h hH => ?_)
      refine lv_iload_n hC.x hC.b dX12_away_105 rfl (lv_at hl 1 rfl) ?_
      rw [hQ]
      exact e_i hC hr hH h dX12_away_106
    clear ej5
    have hl6 : ∀ (n : Nat) (x7 : Int32) (x8 : Int32) (x9 : Int32) (m10 : gMem) (H : Heap) (locs : List Loc) (ls : Array Slot), lq4 (s_X12_away_28 j5 x4 p0) n x7 x8 x9 m10 = some (rv, memz) → gH D cy shM ad L (gA ad L) s.heap m10 H locs → lv_has ls 7 [(0, .ref (ad 0)), (1, .int p0), (2, .int x7), (3, .int x8), (4, .int x4), (5, .int x9)] → W p l e R s m args below meth c H locs 0 0 Q (F0 m 28 ls []) := by
      intro n
      induction n with
      | zero => intro x7 x8 x9 m10 H locs ls h _ _; exact lq4_0 h
      | succ n ih6 =>
        intro x7 x8 x9 m10 H locs ls h hH hl
        obtain ⟨self6, es6, h⟩ := lq4_s h
        refine lv_iload hC.x hC.b dX12_away_28 (lv_at hl 5 rfl) ?_
        refine lv_bipush (v := 12) hC.x hC.b dX12_away_30 rfl ?_
        refine b_ic_ge (tgt := 99) hC dX12_away_32 (by decide) h (fun h => ?_) (fun h => ?_)
        · exact hj5 x8 m10 H locs ls h hH (lv_sub hl [0, 3, 4] rfl)
        · refine lv_aload_n hC.x hC.b dX12_away_35 rfl (lv_at hl 0 rfl) ?_
          refine lv_iload hC.x hC.b dX12_away_36 (lv_at hl 4 rfl) ?_
          refine lv_iload hC.x hC.b dX12_away_38 (lv_at hl 5 rfl) ?_
          obtain ⟨x11, hf11, h⟩ := bd_e h
          refine c_V1 (As := [.int x4, .int x9]) (rest := []) (o := 0) (q := (RX12, TX12, 74)) hC hX hE.2.1 hF hH (c_X12_has (l := l) hk hL hE hf11) kw388 kw389 kw390 kw5 kw391 a_X12_has.1 a_X12_has.2 (hL _ mM0) sM0 rfl rfl hl.1 (rmk hR (by decide) (by decide)) (Nat.le_of_ble_eq_true rfl) dX12_away_40 (fun H locs hH => ?_)
          obtain ⟨j12, ej12, h⟩ := jn_e h
          have hj12 : ∀ (x17 : Int32) (x18 : Int32) (m19 : gMem) (H : Heap) (locs : List Loc) (ls : Array Slot), (j12 x17 x18 m19) = some (rv, memz) → gH D cy shM ad L (gA ad L) s.heap m19 H locs → lv_has ls 7 [(0, .ref (ad 0)), (1, .int p0), (2, .int x17), (3, .int x18), (4, .int x4), (5, .int x9)] → W p l e R s m args below meth c H locs 0 0 Q (F0 m 93 ls []) := by
            intro x17 x18 m19 H locs ls h hH hl
            have h := ap3 ej12 h
            refine i_inc (lv' := fun x20 => [(5, .int x20), (0, .ref (ad 0)), (1, .int p0), (2, .int x17), (3, .int x18), (4, .int x4)]) hC dX12_away_93 hl (k := 5) rfl (by decide) (fun _ => rfl) (z := 1) rfl h (fun x20 ls h hl => ?_)
            refine lv_goto (tgt := 28) hC.x hC.b dX12_away_96 (by decide) ?_
            exact ih6 x17 x18 x20 m19 H locs ls (ap4 es6 h) hH (lv_sub hl [1, 2, 3, 4, 5, 0] rfl)
          clear ej12
          refine b_if_ne (tgt := 49) hC dX12_away_43 (by decide) h (fun h => ?_) (fun h => ?_)
          · refine lv_aload_n hC.x hC.b dX12_away_49 rfl (lv_at hl 0 rfl) ?_
            refine lv_iload hC.x hC.b dX12_away_50 (lv_at hl 4 rfl) ?_
            refine lv_iconst (v := 1) hC.x hC.b dX12_away_52 rfl ?_
            refine lv_iload hC.x hC.b dX12_away_53 (lv_at hl 5 rfl) ?_
            refine lv_ishl hC.x hC.b dX12_away_55 ?_
            refine lv_iconst (v := -1) hC.x hC.b dX12_away_56 rfl ?_
            refine lv_ixor hC.x hC.b dX12_away_57 ?_
            refine lv_iand hC.x hC.b dX12_away_58 ?_
            refine r_puti hC hF hH pl_X12_19_12 (hL _ mM0) sM0 rfl h dX12_away_59 (fun m13 H locs h hH => ?_)
            refine lv_aload_n hC.x hC.b dX12_away_62 rfl (lv_at hl 0 rfl) ?_
            refine lv_iload_n hC.x hC.b dX12_away_63 rfl (lv_at hl 1 rfl) ?_
            obtain ⟨x15, m14, hf15, h⟩ := bd2_e h
            refine c_V1 (As := [.int p0]) (rest := []) (o := 0) (q := (RX12, TX12, 74)) hC hX hE.2.1 hF hH (c_X12_outNow (l := l) hk hL hE hf15) kw865 kw866 kw867 kw5 kw868 a_X12_outNow.1 a_X12_outNow.2 (hL _ mM0) sM0 rfl rfl hl.1 (rmk hR (by decide) (by decide)) (Nat.le_of_ble_eq_true rfl) dX12_away_64 (fun H locs hH => ?_)
            refine lv_istore (lv' := [(6, .int x15), (0, .ref (ad 0)), (1, .int p0), (2, .int x7), (3, .int x8), (4, .int x4), (5, .int x9)]) hC.x hC.b dX12_away_67 hl (by decide) rfl (fun ls hl => ?_)
            refine lv_iload hC.x hC.b dX12_away_69 (lv_at hl 0 rfl) ?_
            refine b_if_lt (tgt := 93) hC dX12_away_71 (by decide) h (fun h => ?_) (fun h => ?_)
            · exact hj12 x7 x8 m14 H locs ls h hH (lv_sub hl [1, 2, 3, 4, 5, 6] rfl)
            · refine lv_iload_n hC.x hC.b dX12_away_74 rfl (lv_at hl 3 rfl) ?_
              obtain ⟨j16, ej16, h⟩ := jn_e h
              have hj16 : ∀  (H : Heap) (locs : List Loc) (ls : Array Slot), j16 = some (rv, memz) → gH D cy shM ad L (gA ad L) s.heap m14 H locs → lv_has ls 7 [(0, .ref (ad 0)), (1, .int p0), (4, .int x4), (5, .int x9), (6, .int x15)] → W p l e R s m args below meth c H locs 0 0 Q (F0 m 87 ls []) := by
                intro H locs ls h hH hl
                have h := ap0 ej16 h
                refine lv_iload hC.x hC.b dX12_away_87 (lv_at hl 3 rfl) ?_
                refine lv_istore_n (lv' := [(3, .int x9), (0, .ref (ad 0)), (1, .int p0), (4, .int x4), (5, .int x9), (6, .int x15)]) hC.x hC.b dX12_away_89 rfl hl (by decide) rfl (fun ls hl => ?_)
                refine lv_iload hC.x hC.b dX12_away_90 (lv_at hl 5 rfl) ?_
                refine lv_istore_n (lv' := [(2, .int x15), (3, .int x9), (0, .ref (ad 0)), (1, .int p0), (4, .int x4), (5, .int x9), (6, .int x15)]) hC.x hC.b dX12_away_92 rfl hl (by decide) rfl (fun ls hl => ?_)
                exact hj12 x15 x9 m14 H locs ls h hH (lv_sub hl [2, 3, 0, 1, 4, 5] rfl)
              clear ej16
              refine b_if_lt (tgt := 87) hC dX12_away_75 (by decide) h (fun h => ?_) (fun h => ?_)
              · exact hj16  H locs ls h hH (lv_sub hl [1, 2, 5, 6, 0] rfl)
              · refine lv_iload hC.x hC.b dX12_away_78 (lv_at hl 0 rfl) ?_
                refine lv_iload_n hC.x hC.b dX12_away_80 rfl (lv_at hl 3 rfl) ?_
                refine b_ic_lt (tgt := 87) hC dX12_away_81 (by decide) h (fun h => ?_) (fun h => ?_)
                · exact hj16  H locs ls h hH (lv_sub hl [1, 2, 5, 6, 0] rfl)
                · refine lv_goto (tgt := 93) hC.x hC.b dX12_away_84 (by decide) ?_
                  exact hj12 x7 x8 m14 H locs ls h hH (lv_sub hl [1, 2, 3, 4, 5, 6] rfl)
          · refine lv_goto (tgt := 93) hC.x hC.b dX12_away_46 (by decide) ?_
            exact hj12 x7 x8 m10 H locs ls h hH (lv_sub hl [0, 1, 2, 3, 4, 5] rfl)
    exact hl6 _ x3 (-5 : Int32) (0 : Int32) m2 H locs ls h hH (lv_sub hl [4, 5, 3, 2, 1, 0] rfl)
  · refine lv_iconst (v := -1) hC.x hC.b dX12_away_8 rfl ?_
    rw [hQ]
    exact e_i hC hr hH h dX12_away_9
theorem pl_X12_100_12 : gPl RX12 100 12 29 "I" := ⟨RX12, TX12, 74, tyX12, "OnTiptoeModel", rfl, inW12, tyX12_ok, nmX12, by decide, kw106, Or.inl rfl, rfl, rfl⟩
def s_X12_deeper_15 (j2 : Int32 → gMem → Option (Int32 × gMem)) (p0 : Int32) (self3 : Int32 → Int32 → gMem → Option (Int32 × gMem)) (x4 : Int32) (x5 : Int32) (m6 : gMem) : Option (Int32 × gMem) := if (31 : Int32) ≤ x5 then ((j2 x4 m6)) else if 0 ≤ x4 then ((j2 x4 m6)) else lt1 (gsI m6 0 29 x5) fun (m7 : gMem) => bd2 (f_X12_outNow m7 p0) fun (x9 : Int32) (m8 : gMem) => jn ((fun (x11 : Int32) => lt1 (x5 + (1 : Int32)) fun (x12 : Int32) => (self3 x11 x12 m8)) : Int32 → Option (Int32 × gMem)) fun j10 => if 0 ≤ x9 then ((j10 x5)) else (j10 (-5 : Int32))
def f_X12_deeper (mem : gMem) (p0 : Int32) : Option (Int32 × gMem) := bd (f_X12_isWalker mem p0) fun (x1 : Int32) => if x1 = 0 then (some ((-1 : Int32), mem)) else jn ((fun (x13 : Int32) (m14 : gMem) => lt1 (gsI m14 0 29 (0 : Int32)) fun (m15 : gMem) => some (x13, m15)) : Int32 → gMem → Option (Int32 × gMem)) fun j2 => lq3 (s_X12_deeper_15 j2 p0) 1000 (-5 : Int32) (0 : Int32) mem
set_option maxRecDepth 100000 in
set_option maxHeartbeats 4000000 in
theorem c_X12_deeper {l : Launch} {E : State → Prop} {D : va_G} {cy : Nat → ClassId} {ad : Nat → Nat} {L : List Nat} {mem : gMem} {p0 : Int32} {rv : Int32} {memz : gMem} (hk : gOk ad L) (hL : ∀ o ∈ LM0, o ∈ L) (hE : gEok ad L E)  (h : f_X12_deeper mem p0 = some (rv, memz)) : gMet l yX12_deeper cX12_deeper 4 (some .int) 8 204 E D cy shM ad L [.ref (ad 0), .int p0] mem memz (some (.int rv)) := by
  refine g_go (own := RX12) (by decide +kernel) rfl hE (Nat.le_of_ble_eq_true rfl) ?_
  intro p e s m args below meth c R Q hargs hR hQ hEs hC hr hX H locs ls hH hl
  have hF := gF_of hk
  have hl : lv_has ls 4 [(0, .ref (ad 0)), (1, .int p0)] := hl
  refine lv_aload_n hC.x hC.b dX12_deeper_0 rfl (lv_at hl 0 rfl) ?_
  refine lv_iload_n hC.x hC.b dX12_deeper_1 rfl (lv_at hl 1 rfl) ?_
  obtain ⟨x1, hf1, h⟩ := bd_e h
  refine c_V1 (As := [.int p0]) (rest := []) (o := 0) (q := (RX12, TX12, 74)) hC hX hE.2.1 hF hH (c_X12_isWalker (l := l) hk hL hE hf1) kw376 kw377 kw378 kw5 kw379 a_X12_isWalker.1 a_X12_isWalker.2 (hL _ mM0) sM0 rfl rfl hl.1 (rmk hR (by decide) (by decide)) (Nat.le_of_ble_eq_true rfl) dX12_deeper_2 (fun H locs hH => ?_)
  refine b_if_ne (tgt := 10) hC dX12_deeper_5 (by decide) h (fun h => ?_) (fun h => ?_)
  · refine lv_bipush (v := -5) hC.x hC.b dX12_deeper_10 rfl ?_
    refine lv_istore_n (lv' := [(2, .int (-5 : Int32)), (0, .ref (ad 0)), (1, .int p0)]) hC.x hC.b dX12_deeper_12 rfl hl (by decide) rfl (fun ls hl => ?_)
    refine lv_iconst (v := 0) hC.x hC.b dX12_deeper_13 rfl ?_
    refine lv_istore_n (lv' := [(3, .int (0 : Int32)), (2, .int (-5 : Int32)), (0, .ref (ad 0)), (1, .int p0)]) hC.x hC.b dX12_deeper_14 rfl hl (by decide) rfl (fun ls hl => ?_)
    obtain ⟨j2, ej2, h⟩ := jn_e h
    have hj2 : ∀ (x13 : Int32) (m14 : gMem) (H : Heap) (locs : List Loc) (ls : Array Slot), (j2 x13 m14) = some (rv, memz) → gH D cy shM ad L (gA ad L) s.heap m14 H locs → lv_has ls 4 [(0, .ref (ad 0)), (2, .int x13)] → W p l e R s m args below meth c H locs 0 0 Q (F0 m 51 ls []) := by
      intro x13 m14 H locs ls h hH hl
      have h := ap2 ej2 h
      refine lv_aload_n hC.x hC.b dX12_deeper_51 rfl (lv_at hl 0 rfl) ?_
      refine lv_iconst (v := 0) hC.x hC.b dX12_deeper_52 rfl ?_
      refine r_puti hC hF hH pl_X12_100_12 (hL _ mM0) sM0 rfl h dX12_deeper_53 (fun m15 H locs h hH => ?_)
      refine lv_iload_n hC.x hC.b dX12_deeper_56 rfl (lv_at hl 1 rfl) ?_
      rw [hQ]
      exact e_i hC hr hH h dX12_deeper_57
    clear ej2
    have hl3 : ∀ (n : Nat) (x4 : Int32) (x5 : Int32) (m6 : gMem) (H : Heap) (locs : List Loc) (ls : Array Slot), lq3 (s_X12_deeper_15 j2 p0) n x4 x5 m6 = some (rv, memz) → gH D cy shM ad L (gA ad L) s.heap m6 H locs → lv_has ls 4 [(0, .ref (ad 0)), (1, .int p0), (2, .int x4), (3, .int x5)] → W p l e R s m args below meth c H locs 0 0 Q (F0 m 15 ls []) := by
      intro n
      induction n with
      | zero => intro x4 x5 m6 H locs ls h _ _; exact lq3_0 h
      | succ n ih3 =>
        intro x4 x5 m6 H locs ls h hH hl
        obtain ⟨self3, es3, h⟩ := lq3_s h
        refine lv_iload_n hC.x hC.b dX12_deeper_15 rfl (lv_at hl 3 rfl) ?_
        refine lv_bipush (v := 31) hC.x hC.b dX12_deeper_16 rfl ?_
        refine b_ic_ge (tgt := 51) hC dX12_deeper_18 (by decide) h (fun h => ?_) (fun h => ?_)
        · exact hj2 x4 m6 H locs ls h hH (lv_sub hl [0, 2] rfl)
        · refine lv_iload_n hC.x hC.b dX12_deeper_21 rfl (lv_at hl 2 rfl) ?_
          refine b_if_ge (tgt := 51) hC dX12_deeper_22 (by decide) h (fun h => ?_) (fun h => ?_)
          · exact hj2 x4 m6 H locs ls h hH (lv_sub hl [0, 2] rfl)
          · refine lv_aload_n hC.x hC.b dX12_deeper_25 rfl (lv_at hl 0 rfl) ?_
            refine lv_iload_n hC.x hC.b dX12_deeper_26 rfl (lv_at hl 3 rfl) ?_
            refine r_puti hC hF hH pl_X12_100_12 (hL _ mM0) sM0 rfl h dX12_deeper_27 (fun m7 H locs h hH => ?_)
            refine lv_aload_n hC.x hC.b dX12_deeper_30 rfl (lv_at hl 0 rfl) ?_
            refine lv_iload_n hC.x hC.b dX12_deeper_31 rfl (lv_at hl 1 rfl) ?_
            obtain ⟨x9, m8, hf9, h⟩ := bd2_e h
            refine c_V1 (As := [.int p0]) (rest := []) (o := 0) (q := (RX12, TX12, 74)) hC hX hE.2.1 hF hH (c_X12_outNow (l := l) hk hL hE hf9) kw865 kw866 kw867 kw5 kw868 a_X12_outNow.1 a_X12_outNow.2 (hL _ mM0) sM0 rfl rfl hl.1 (rmk hR (by decide) (by decide)) (Nat.le_of_ble_eq_true rfl) dX12_deeper_32 (fun H locs hH => ?_)
            obtain ⟨j10, ej10, h⟩ := jn_e h
            have hj10 : ∀ (x11 : Int32) (H : Heap) (locs : List Loc) (ls : Array Slot), (j10 x11) = some (rv, memz) → gH D cy shM ad L (gA ad L) s.heap m8 H locs → lv_has ls 4 [(0, .ref (ad 0)), (1, .int p0), (3, .int x5)] → W p l e R s m args below meth c H locs 0 0 Q (F0 m 44 ls [.int x11]) := by
              intro x11 H locs ls h hH hl
              have h := ap1 ej10 h
              refine lv_istore_n (lv' := [(2, .int x11), (0, .ref (ad 0)), (1, .int p0), (3, .int x5)]) hC.x hC.b dX12_deeper_44 rfl hl (by decide) rfl (fun ls hl => ?_)
              refine i_inc (lv' := fun x12 => [(3, .int x12), (2, .int x11), (0, .ref (ad 0)), (1, .int p0)]) hC dX12_deeper_45 hl (k := 3) rfl (by decide) (fun _ => rfl) (z := 1) rfl h (fun x12 ls h hl => ?_)
              refine lv_goto (tgt := 15) hC.x hC.b dX12_deeper_48 (by decide) ?_
              exact ih3 x11 x12 m8 H locs ls (ap3 es3 h) hH (lv_sub hl [2, 3, 1, 0] rfl)
            clear ej10
            refine b_if_ge (tgt := 43) hC dX12_deeper_35 (by decide) h (fun h => ?_) (fun h => ?_)
            · refine lv_iload_n hC.x hC.b dX12_deeper_43 rfl (lv_at hl 3 rfl) ?_
              exact hj10 x5 H locs ls h hH (lv_sub hl [0, 1, 3] rfl)
            · refine lv_bipush (v := -5) hC.x hC.b dX12_deeper_38 rfl ?_
              refine lv_goto (tgt := 44) hC.x hC.b dX12_deeper_40 (by decide) ?_
              exact hj10 (-5 : Int32) H locs ls h hH (lv_sub hl [0, 1, 3] rfl)
    exact hl3 _ (-5 : Int32) (0 : Int32) mem H locs ls h hH (lv_sub hl [2, 3, 1, 0] rfl)
  · refine lv_iconst (v := -1) hC.x hC.b dX12_deeper_8 rfl ?_
    rw [hQ]
    exact e_i hC hr hH h dX12_deeper_9
theorem a_X12_tellsAct : noMH yX12_tellsAct.cls ∧ arity yX12_tellsAct.desc 2 := by decide +kernel
def f_X12_act (mem : gMem) (p0 : Int32) (p1 : Int32) (p2 : Int32) : Option (Int32 × gMem) := lt1 (gsI mem 0 68 (0 : Int32)) fun (m1 : gMem) => bd (f_X12_isWalker m1 p0) fun (x2 : Int32) => if x2 = 0 then (some ((0 : Int32), m1)) else bd (f_X12_in p1 (0 : Int32) (2 : Int32)) fun (x3 : Int32) => if x3 = 0 then (some ((0 : Int32), m1)) else if p1 = 0 then (bd2 (f_X12_treadsAct m1 p0 p2) fun (x9 : Int32) (m8 : gMem) => some (x9, m8)) else if p1 = (1 : Int32) then (bd2 (f_X12_goesAct m1 p0 p2) fun (x7 : Int32) (m6 : gMem) => some (x7, m6)) else bd2 (f_X12_tellsAct m1 p0 p2) fun (x5 : Int32) (m4 : gMem) => some (x5, m4)
set_option maxRecDepth 100000 in
set_option maxHeartbeats 4000000 in
theorem c_X12_act {l : Launch} {E : State → Prop} {D : va_G} {cy : Nat → ClassId} {ad : Nat → Nat} {L : List Nat} {mem : gMem} {p0 : Int32} {p1 : Int32} {p2 : Int32} {rv : Int32} {memz : gMem} (hk : gOk ad L) (hL : ∀ o ∈ LM0, o ∈ L) (hE : gEok ad L E)  (h : f_X12_act mem p0 p1 p2 = some (rv, memz)) : gMet l yX12_act cX12_act 4 (some .int) 8 177 E D cy shM ad L [.ref (ad 0), .int p0, .int p1, .int p2] mem memz (some (.int rv)) := by
  refine g_go (own := RX12) (by decide +kernel) rfl hE (Nat.le_of_ble_eq_true rfl) ?_
  intro p e s m args below meth c R Q hargs hR hQ hEs hC hr hX H locs ls hH hl
  have hF := gF_of hk
  have hl : lv_has ls 4 [(0, .ref (ad 0)), (1, .int p0), (2, .int p1), (3, .int p2)] := hl
  refine lv_aload_n hC.x hC.b dX12_act_0 rfl (lv_at hl 0 rfl) ?_
  refine lv_iconst (v := 0) hC.x hC.b dX12_act_1 rfl ?_
  refine r_puti hC hF hH pl_X12_217_12 (hL _ mM0) sM0 rfl h dX12_act_2 (fun m1 H locs h hH => ?_)
  refine lv_aload_n hC.x hC.b dX12_act_5 rfl (lv_at hl 0 rfl) ?_
  refine lv_iload_n hC.x hC.b dX12_act_6 rfl (lv_at hl 1 rfl) ?_
  obtain ⟨x2, hf2, h⟩ := bd_e h
  refine c_V1 (As := [.int p0]) (rest := []) (o := 0) (q := (RX12, TX12, 74)) hC hX hE.2.1 hF hH (c_X12_isWalker (l := l) hk hL hE hf2) kw376 kw377 kw378 kw5 kw379 a_X12_isWalker.1 a_X12_isWalker.2 (hL _ mM0) sM0 rfl rfl hl.1 (rmk hR (by decide) (by decide)) (Nat.le_of_ble_eq_true rfl) dX12_act_7 (fun H locs hH => ?_)
  refine b_if_eq (tgt := 23) hC dX12_act_10 (by decide) h (fun h => ?_) (fun h => ?_)
  · refine lv_iconst (v := 0) hC.x hC.b dX12_act_23 rfl ?_
    rw [hQ]
    exact e_i hC hr hH h dX12_act_24
  · refine lv_aload_n hC.x hC.b dX12_act_13 rfl (lv_at hl 0 rfl) ?_
    refine lv_iload_n hC.x hC.b dX12_act_14 rfl (lv_at hl 2 rfl) ?_
    refine lv_iconst (v := 0) hC.x hC.b dX12_act_15 rfl ?_
    refine lv_iconst (v := 2) hC.x hC.b dX12_act_16 rfl ?_
    obtain ⟨x3, hf3, h⟩ := bd_e h
    refine c_V1 (As := [.int p1, .int (0 : Int32), .int (2 : Int32)]) (rest := []) (o := 0) (q := (RX12, TX12, 74)) hC hX hE.2.1 hF hH (c_X12_in (l := l) hk hL hE hf3) kw167 kw168 kw169 kw5 kw170 a_X12_in.1 a_X12_in.2 (hL _ mM0) sM0 rfl rfl hl.1 (rmk hR (by decide) (by decide)) (Nat.le_of_ble_eq_true rfl) dX12_act_17 (fun H locs hH => ?_)
    refine b_if_ne (tgt := 25) hC dX12_act_20 (by decide) h (fun h => ?_) (fun h => ?_)
    · refine lv_iload_n hC.x hC.b dX12_act_25 rfl (lv_at hl 2 rfl) ?_
      refine b_if_ne (tgt := 38) hC dX12_act_26 (by decide) h (fun h => ?_) (fun h => ?_)
      · refine lv_iload_n hC.x hC.b dX12_act_38 rfl (lv_at hl 2 rfl) ?_
        refine lv_iconst (v := 1) hC.x hC.b dX12_act_39 rfl ?_
        refine b_ic_ne (tgt := 52) hC dX12_act_40 (by decide) h (fun h => ?_) (fun h => ?_)
        · refine lv_aload_n hC.x hC.b dX12_act_52 rfl (lv_at hl 0 rfl) ?_
          refine lv_iload_n hC.x hC.b dX12_act_53 rfl (lv_at hl 1 rfl) ?_
          refine lv_iload_n hC.x hC.b dX12_act_54 rfl (lv_at hl 3 rfl) ?_
          obtain ⟨x5, m4, hf5, h⟩ := bd2_e h
          refine c_V1 (As := [.int p0, .int p2]) (rest := []) (o := 0) (q := (RX12, TX12, 74)) hC hX hE.2.1 hF hH (c_X12_tellsAct (l := l) hk hL hE hf5) kw1262 kw1263 kw1264 kw5 kw1265 a_X12_tellsAct.1 a_X12_tellsAct.2 (hL _ mM0) sM0 rfl rfl hl.1 (rmk hR (by decide) (by decide)) (Nat.le_of_ble_eq_true rfl) dX12_act_55 (fun H locs hH => ?_)
          rw [hQ]
          exact e_i hC hr hH h dX12_act_58
        · refine lv_aload_n hC.x hC.b dX12_act_43 rfl (lv_at hl 0 rfl) ?_
          refine lv_iload_n hC.x hC.b dX12_act_44 rfl (lv_at hl 1 rfl) ?_
          refine lv_iload_n hC.x hC.b dX12_act_45 rfl (lv_at hl 3 rfl) ?_
          obtain ⟨x7, m6, hf7, h⟩ := bd2_e h
          refine c_V1 (As := [.int p0, .int p2]) (rest := []) (o := 0) (q := (RX12, TX12, 74)) hC hX hE.2.1 hF hH (c_X12_goesAct (l := l) hk hL hE hf7) kw1250 kw1251 kw1252 kw5 kw1253 a_X12_goesAct.1 a_X12_goesAct.2 (hL _ mM0) sM0 rfl rfl hl.1 (rmk hR (by decide) (by decide)) (Nat.le_of_ble_eq_true rfl) dX12_act_46 (fun H locs hH => ?_)
          refine lv_goto (tgt := 58) hC.x hC.b dX12_act_49 (by decide) ?_
          rw [hQ]
          exact e_i hC hr hH h dX12_act_58
      · refine lv_aload_n hC.x hC.b dX12_act_29 rfl (lv_at hl 0 rfl) ?_
        refine lv_iload_n hC.x hC.b dX12_act_30 rfl (lv_at hl 1 rfl) ?_
        refine lv_iload_n hC.x hC.b dX12_act_31 rfl (lv_at hl 3 rfl) ?_
        obtain ⟨x9, m8, hf9, h⟩ := bd2_e h
        refine c_V1 (As := [.int p0, .int p2]) (rest := []) (o := 0) (q := (RX12, TX12, 74)) hC hX hE.2.1 hF hH (c_X12_treadsAct (l := l) hk hL hE hf9) kw1238 kw1239 kw1240 kw5 kw1241 a_X12_treadsAct.1 a_X12_treadsAct.2 (hL _ mM0) sM0 rfl rfl hl.1 (rmk hR (by decide) (by decide)) (Nat.le_of_ble_eq_true rfl) dX12_act_32 (fun H locs hH => ?_)
        refine lv_goto (tgt := 58) hC.x hC.b dX12_act_35 (by decide) ?_
        rw [hQ]
        exact e_i hC hr hH h dX12_act_58
    · refine lv_iconst (v := 0) hC.x hC.b dX12_act_23 rfl ?_
      rw [hQ]
      exact e_i hC hr hH h dX12_act_24

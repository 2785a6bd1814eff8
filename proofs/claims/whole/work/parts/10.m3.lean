def s_X12_who_17 (j5 : Int32 → gMem → Option (Int32 × gMem)) (x3 : Int32) (self6 : Int32 → Int32 → gMem → Option (Int32 × gMem)) (x7 : Int32) (x8 : Int32) (m9 : gMem) : Option (Int32 × gMem) := if (gI m9 0 41) ≤ x8 then ((j5 x7 m9)) else if x7 = 0 then ((j5 x7 m9)) else if okI x8 6 then if okI x8 6 then bd2 (f_X12_noise m9 x3 (gI m9 21 (ix x8)) ((gI m9 0 1) + (gI m9 22 (ix x8)))) fun (x11 : Int32) (m10 : gMem) => if okI x8 6 then bd2 (f_X12_depthAt m10 ((gI m10 0 1) + (gI m10 22 (ix x8)))) fun (x13 : Int32) (m12 : gMem) => jn ((fun (x15 : Int32) => if okI x8 6 then jn ((fun (x17 : Int32) => lt1 (x8 + (1 : Int32)) fun (x18 : Int32) => (self6 x17 x18 m12)) : Int32 → Option (Int32 × gMem)) fun j16 => if x15 = (gI m12 23 (ix x8)) then ((j16 (1 : Int32))) else (j16 (0 : Int32)) else none) : Int32 → Option (Int32 × gMem)) fun j14 => if x11 ≤ x13 then ((j14 (0 : Int32))) else (j14 (1 : Int32)) else none else none else none
def s_X12_who_4 (self1 : Int32 → Int32 → gMem → Option (Int32 × gMem)) (x2 : Int32) (x3 : Int32) (m4 : gMem) : Option (Int32 × gMem) := if (gI m4 0 0) ≤ x3 then (some (x2, m4)) else jn ((fun (x19 : Int32) (m20 : gMem) => jn ((fun (x22 : Int32) => lt1 (x2 ||| x22) fun (x23 : Int32) => lt1 (x3 + (1 : Int32)) fun (x24 : Int32) => (self1 x23 x24 m20)) : Int32 → Option (Int32 × gMem)) fun j21 => if x19 = 0 then ((j21 (0 : Int32))) else (j21 ((1 : Int32) <<< (x3 &&& 31)))) : Int32 → gMem → Option (Int32 × gMem)) fun j5 => lq3 (s_X12_who_17 j5 x3) 1000 (1 : Int32) (0 : Int32) m4
def f_X12_who (mem : gMem) : Option (Int32 × gMem) := lq3 (s_X12_who_4) 1000 (0 : Int32) (0 : Int32) mem
set_option maxRecDepth 100000 in
set_option maxHeartbeats 4000000 in
theorem c_X12_who {l : Launch} {E : State → Prop} {D : va_G} {cy : Nat → ClassId} {ad : Nat → Nat} {L : List Nat} {mem : gMem} {rv : Int32} {memz : gMem} (hk : gOk ad L) (hL : ∀ o ∈ LM0, o ∈ L) (hE : gEok ad L E)  (h : f_X12_who mem = some (rv, memz)) : gMet l yX12_who cX12_who 5 (some .int) 5 127 E D cy shM ad L [.ref (ad 0)] mem memz (some (.int rv)) := by
  refine g_go (own := RX12) (by decide +kernel) rfl hE (Nat.le_of_ble_eq_true rfl) ?_
  intro p e s m args below meth c R Q hargs hR hQ hEs hC hr hX H locs ls hH hl
  have hF := gF_of hk
  have hl : lv_has ls 5 [(0, .ref (ad 0))] := hl
  refine lv_iconst (v := 0) hC.x hC.b dX12_who_0 rfl ?_
  refine lv_istore_n (lv' := [(1, .int (0 : Int32)), (0, .ref (ad 0))]) hC.x hC.b dX12_who_1 rfl hl (by decide) rfl (fun ls hl => ?_)
  refine lv_iconst (v := 0) hC.x hC.b dX12_who_2 rfl ?_
  refine lv_istore_n (lv' := [(2, .int (0 : Int32)), (1, .int (0 : Int32)), (0, .ref (ad 0))]) hC.x hC.b dX12_who_3 rfl hl (by decide) rfl (fun ls hl => ?_)
  have hl1 : ∀ (n : Nat) (x2 : Int32) (x3 : Int32) (m4 : gMem) (H : Heap) (locs : List Loc) (ls : Array Slot), lq3 (s_X12_who_4) n x2 x3 m4 = some (rv, memz) → gH D cy shM ad L (gA ad L) s.heap m4 H locs → lv_has ls 5 [(0, .ref (ad 0)), (1, .int x2), (2, .int x3)] → W p l e R s m args below meth c H locs 0 0 Q (F0 m 4 ls []) := by
    intro n
    induction n with
    | zero => intro x2 x3 m4 H locs ls h _ _; exact lq3_0 h
    | succ n ih1 =>
      intro x2 x3 m4 H locs ls h hH hl
      obtain ⟨self1, es1, h⟩ := lq3_s h
      refine lv_iload_n hC.x hC.b dX12_who_4 rfl (lv_at hl 2 rfl) ?_
      refine lv_aload_n hC.x hC.b dX12_who_5 rfl (lv_at hl 0 rfl) ?_
      refine r_geti hC hH fl_X12_7_12 (hL _ mM0) sM0 rfl dX12_who_6 ?_
      refine b_ic_ge (tgt := 120) hC dX12_who_9 (by decide) h (fun h => ?_) (fun h => ?_)
      · refine lv_iload_n hC.x hC.b dX12_who_120 rfl (lv_at hl 1 rfl) ?_
        rw [hQ]
        exact e_i hC hr hH h dX12_who_121
      · refine lv_iconst (v := 1) hC.x hC.b dX12_who_12 rfl ?_
        refine lv_istore_n (lv' := [(3, .int (1 : Int32)), (0, .ref (ad 0)), (1, .int x2), (2, .int x3)]) hC.x hC.b dX12_who_13 rfl hl (by decide) rfl (fun ls hl => ?_)
        refine lv_iconst (v := 0) hC.x hC.b dX12_who_14 rfl ?_
        refine lv_istore (lv' := [(4, .int (0 : Int32)), (3, .int (1 : Int32)), (0, .ref (ad 0)), (1, .int x2), (2, .int x3)]) hC.x hC.b dX12_who_15 hl (by decide) rfl (fun ls hl => ?_)
        obtain ⟨j5, ej5, h⟩ := jn_e h
        have hj5 : ∀ (x19 : Int32) (m20 : gMem) (H : Heap) (locs : List Loc) (ls : Array Slot), (j5 x19 m20) = some (rv, memz) → gH D cy shM ad L (gA ad L) s.heap m20 H locs → lv_has ls 5 [(0, .ref (ad 0)), (1, .int x2), (2, .int x3), (3, .int x19)] → W p l e R s m args below meth c H locs 0 0 Q (F0 m 100 ls []) := by
          intro x19 m20 H locs ls h hH hl
          have h := ap2 ej5 h
          refine lv_iload_n hC.x hC.b dX12_who_100 rfl (lv_at hl 1 rfl) ?_
          refine lv_iload_n hC.x hC.b dX12_who_101 rfl (lv_at hl 3 rfl) ?_
          obtain ⟨j21, ej21, h⟩ := jn_e h
          have hj21 : ∀ (x22 : Int32) (H : Heap) (locs : List Loc) (ls : Array Slot), (j21 x22) = some (rv, memz) → gH D cy shM ad L (gA ad L) s.heap m20 H locs → lv_has ls 5 [(0, .ref (ad 0)), (2, .int x3)] → W p l e R s m args below meth c H locs 0 0 Q (F0 m 112 ls [.int x22, .int x2]) := by
            intro x22 H locs ls h hH hl
            have h := ap1 ej21 h
            refine lv_ior hC.x hC.b dX12_who_112 ?_
            refine n_i h (fun x23 h => ?_)
            refine lv_istore_n (lv' := [(1, .int x23), (0, .ref (ad 0)), (2, .int x3)]) hC.x hC.b dX12_who_113 rfl hl (by decide) rfl (fun ls hl => ?_)
            refine i_inc (lv' := fun x24 => [(2, .int x24), (1, .int x23), (0, .ref (ad 0))]) hC dX12_who_114 hl (k := 2) rfl (by decide) (fun _ => rfl) (z := 1) rfl h (fun x24 ls h hl => ?_)
            refine lv_goto (tgt := 4) hC.x hC.b dX12_who_117 (by decide) ?_
            exact ih1 x23 x24 m20 H locs ls (ap3 es1 h) hH (lv_sub hl [2, 1, 0] rfl)
          clear ej21
          refine b_if_eq (tgt := 111) hC dX12_who_102 (by decide) h (fun h => ?_) (fun h => ?_)
          · refine lv_iconst (v := 0) hC.x hC.b dX12_who_111 rfl ?_
            exact hj21 (0 : Int32) H locs ls h hH (lv_sub hl [0, 2] rfl)
          · refine lv_iconst (v := 1) hC.x hC.b dX12_who_105 rfl ?_
            refine lv_iload_n hC.x hC.b dX12_who_106 rfl (lv_at hl 2 rfl) ?_
            refine lv_ishl hC.x hC.b dX12_who_107 ?_
            refine lv_goto (tgt := 112) hC.x hC.b dX12_who_108 (by decide) ?_
            exact hj21 ((1 : Int32) <<< (x3 &&& 31)) H locs ls h hH (lv_sub hl [0, 2] rfl)
        clear ej5
        have hl6 : ∀ (n : Nat) (x7 : Int32) (x8 : Int32) (m9 : gMem) (H : Heap) (locs : List Loc) (ls : Array Slot), lq3 (s_X12_who_17 j5 x3) n x7 x8 m9 = some (rv, memz) → gH D cy shM ad L (gA ad L) s.heap m9 H locs → lv_has ls 5 [(0, .ref (ad 0)), (1, .int x2), (2, .int x3), (3, .int x7), (4, .int x8)] → W p l e R s m args below meth c H locs 0 0 Q (F0 m 17 ls []) := by
          intro n
          induction n with
          | zero => intro x7 x8 m9 H locs ls h _ _; exact lq3_0 h
          | succ n ih6 =>
            intro x7 x8 m9 H locs ls h hH hl
            obtain ⟨self6, es6, h⟩ := lq3_s h
            refine lv_iload hC.x hC.b dX12_who_17 (lv_at hl 4 rfl) ?_
            refine lv_aload_n hC.x hC.b dX12_who_19 rfl (lv_at hl 0 rfl) ?_
            refine r_geti hC hH fl_X12_136_12 (hL _ mM0) sM0 rfl dX12_who_20 ?_
            refine b_ic_ge (tgt := 100) hC dX12_who_23 (by decide) h (fun h => ?_) (fun h => ?_)
            · exact hj5 x7 m9 H locs ls h hH (lv_sub hl [0, 1, 2, 3] rfl)
            · refine lv_iload_n hC.x hC.b dX12_who_26 rfl (lv_at hl 3 rfl) ?_
              refine b_if_eq (tgt := 100) hC dX12_who_27 (by decide) h (fun h => ?_) (fun h => ?_)
              · exact hj5 x7 m9 H locs ls h hH (lv_sub hl [0, 1, 2, 3] rfl)
              · refine lv_aload_n hC.x hC.b dX12_who_30 rfl (lv_at hl 0 rfl) ?_
                refine lv_iload_n hC.x hC.b dX12_who_31 rfl (lv_at hl 2 rfl) ?_
                refine lv_aload_n hC.x hC.b dX12_who_32 rfl (lv_at hl 0 rfl) ?_
                refine r_getc (z := 21) hC hH fl_X12_139_12 (hL _ mM0) sM0 rfl dX12_who_33 ?_
                refine lv_iload hC.x hC.b dX12_who_36 (lv_at hl 4 rfl) ?_
                refine r_iald hC hH (hL _ mM21) sM21 h dX12_who_38 (fun h => ?_)
                refine lv_aload_n hC.x hC.b dX12_who_39 rfl (lv_at hl 0 rfl) ?_
                refine r_geti hC hH fl_X12_13_12 (hL _ mM0) sM0 rfl dX12_who_40 ?_
                refine lv_aload_n hC.x hC.b dX12_who_43 rfl (lv_at hl 0 rfl) ?_
                refine r_getc (z := 22) hC hH fl_X12_142_12 (hL _ mM0) sM0 rfl dX12_who_44 ?_
                refine lv_iload hC.x hC.b dX12_who_47 (lv_at hl 4 rfl) ?_
                refine r_iald hC hH (hL _ mM22) sM22 h dX12_who_49 (fun h => ?_)
                refine lv_iadd hC.x hC.b dX12_who_50 ?_
                obtain ⟨x11, m10, hf11, h⟩ := bd2_e h
                refine c_V1 (As := [.int x3, .int (gI m9 21 (ix x8)), .int ((gI m9 0 1) + (gI m9 22 (ix x8)))]) (rest := []) (o := 0) (q := (RX12, TX12, 74)) hC hX hE.2.1 hF hH (c_X12_noise (l := l) hk hL hE hf11) kw380 kw381 kw382 kw5 kw383 a_X12_noise.1 a_X12_noise.2 (hL _ mM0) sM0 rfl rfl hl.1 (rmk hR (by decide) (by decide)) (Nat.le_of_ble_eq_true rfl) dX12_who_51 (fun H locs hH => ?_)
                refine lv_aload_n hC.x hC.b dX12_who_54 rfl (lv_at hl 0 rfl) ?_
                refine lv_aload_n hC.x hC.b dX12_who_55 rfl (lv_at hl 0 rfl) ?_
                refine r_geti hC hH fl_X12_13_12 (hL _ mM0) sM0 rfl dX12_who_56 ?_
                refine lv_aload_n hC.x hC.b dX12_who_59 rfl (lv_at hl 0 rfl) ?_
                refine r_getc (z := 22) hC hH fl_X12_142_12 (hL _ mM0) sM0 rfl dX12_who_60 ?_
                refine lv_iload hC.x hC.b dX12_who_63 (lv_at hl 4 rfl) ?_
                refine r_iald hC hH (hL _ mM22) sM22 h dX12_who_65 (fun h => ?_)
                refine lv_iadd hC.x hC.b dX12_who_66 ?_
                obtain ⟨x13, m12, hf13, h⟩ := bd2_e h
                refine c_V1 (As := [.int ((gI m10 0 1) + (gI m10 22 (ix x8)))]) (rest := [.int x11]) (o := 0) (q := (RX12, TX12, 74)) hC hX hE.2.1 hF hH (c_X12_depthAt (l := l) hk hL hE hf13) kw707 kw708 kw709 kw5 kw710 a_X12_depthAt.1 a_X12_depthAt.2 (hL _ mM0) sM0 rfl rfl hl.1 (rmk hR (by decide) (by decide)) (Nat.le_of_ble_eq_true rfl) dX12_who_67 (fun H locs hH => ?_)
                obtain ⟨j14, ej14, h⟩ := jn_e h
                have hj14 : ∀ (x15 : Int32) (H : Heap) (locs : List Loc) (ls : Array Slot), (j14 x15) = some (rv, memz) → gH D cy shM ad L (gA ad L) s.heap m12 H locs → lv_has ls 5 [(0, .ref (ad 0)), (1, .int x2), (2, .int x3), (4, .int x8)] → W p l e R s m args below meth c H locs 0 0 Q (F0 m 78 ls [.int x15]) := by
                  intro x15 H locs ls h hH hl
                  have h := ap1 ej14 h
                  refine lv_aload_n hC.x hC.b dX12_who_78 rfl (lv_at hl 0 rfl) ?_
                  refine r_getc (z := 23) hC hH fl_X12_145_12 (hL _ mM0) sM0 rfl dX12_who_79 ?_
                  refine lv_iload hC.x hC.b dX12_who_82 (lv_at hl 3 rfl) ?_
                  refine r_zald hC hH (hL _ mM23) sM23 h dX12_who_84 (fun h => ?_)
                  obtain ⟨j16, ej16, h⟩ := jn_e h
                  have hj16 : ∀ (x17 : Int32) (H : Heap) (locs : List Loc) (ls : Array Slot), (j16 x17) = some (rv, memz) → gH D cy shM ad L (gA ad L) s.heap m12 H locs → lv_has ls 5 [(0, .ref (ad 0)), (1, .int x2), (2, .int x3), (4, .int x8)] → W p l e R s m args below meth c H locs 0 0 Q (F0 m 93 ls [.int x17]) := by
                    intro x17 H locs ls h hH hl
                    have h := ap1 ej16 h
                    refine lv_istore_n (lv' := [(3, .int x17), (0, .ref (ad 0)), (1, .int x2), (2, .int x3), (4, .int x8)]) hC.x hC.b dX12_who_93 rfl hl (by decide) rfl (fun ls hl => ?_)
                    refine i_inc (lv' := fun x18 => [(4, .int x18), (3, .int x17), (0, .ref (ad 0)), (1, .int x2), (2, .int x3)]) hC dX12_who_94 hl (k := 4) rfl (by decide) (fun _ => rfl) (z := 1) rfl h (fun x18 ls h hl => ?_)
                    refine lv_goto (tgt := 17) hC.x hC.b dX12_who_97 (by decide) ?_
                    exact ih6 x17 x18 m12 H locs ls (ap3 es6 h) hH (lv_sub hl [2, 3, 4, 1, 0] rfl)
                  clear ej16
                  refine b_ic_ne (tgt := 92) hC dX12_who_85 (by decide) h (fun h => ?_) (fun h => ?_)
                  · refine lv_iconst (v := 0) hC.x hC.b dX12_who_92 rfl ?_
                    exact hj16 (0 : Int32) H locs ls h hH (lv_sub hl [0, 1, 2, 3] rfl)
                  · refine lv_iconst (v := 1) hC.x hC.b dX12_who_88 rfl ?_
                    refine lv_goto (tgt := 93) hC.x hC.b dX12_who_89 (by decide) ?_
                    exact hj16 (1 : Int32) H locs ls h hH (lv_sub hl [0, 1, 2, 3] rfl)
                clear ej14
                refine b_ic_le (tgt := 77) hC dX12_who_70 (by decide) h (fun h => ?_) (fun h => ?_)
                · refine lv_iconst (v := 0) hC.x hC.b dX12_who_77 rfl ?_
                  exact hj14 (0 : Int32) H locs ls h hH (lv_sub hl [0, 1, 2, 4] rfl)
                · refine lv_iconst (v := 1) hC.x hC.b dX12_who_73 rfl ?_
                  refine lv_goto (tgt := 78) hC.x hC.b dX12_who_74 (by decide) ?_
                  exact hj14 (1 : Int32) H locs ls h hH (lv_sub hl [0, 1, 2, 4] rfl)
        exact hl6 _ (1 : Int32) (0 : Int32) m4 H locs ls h hH (lv_sub hl [2, 3, 4, 1, 0] rfl)
  exact hl1 _ (0 : Int32) (0 : Int32) mem H locs ls h hH (lv_sub hl [2, 1, 0] rfl)
theorem a_X12_lowest : noMH yX12_lowest.cls ∧ arity yX12_lowest.desc 3 := by decide +kernel
def s_X12_mean_34 (j3 : Int32 → gMem → Option (Int64 × gMem)) (p0 : Int32) (self4 : Int32 → Int32 → gMem → Option (Int64 × gMem)) (x5 : Int32) (x6 : Int32) (m7 : gMem) : Option (Int64 × gMem) := if (gI m7 0 0) ≤ x6 then ((j3 x5 m7)) else bd2 (f_X12_noise m7 x6 p0 (gI m7 0 1)) fun (x9 : Int32) (m8 : gMem) => lt1 (x5 + x9) fun (x10 : Int32) => lt1 (x6 + (1 : Int32)) fun (x11 : Int32) => (self4 x10 x11 m8)
def f_X12_mean (mem : gMem) (p0 : Int32) (p1 : Int32) : Option (Int64 × gMem) := bd (f_X12_isBoard p0) fun (x1 : Int32) => if x1 = 0 then (some ((-9223372036854775808 : Int64), mem)) else bd (f_X12_in p1 (0 : Int32) (1 : Int32)) fun (x2 : Int32) => if x2 = 0 then (some ((-9223372036854775808 : Int64), mem)) else if (gI mem 0 0) = 0 then (some ((-9223372036854775808 : Int64), mem)) else jn ((fun (x12 : Int32) (m13 : gMem) => bd (f_X12_lowest x12 (gI m13 0 0) p1) fun (y14 : Int64) => some (y14, m13)) : Int32 → gMem → Option (Int64 × gMem)) fun j3 => lq3 (s_X12_mean_34 j3 p0) 1000 (0 : Int32) (0 : Int32) mem
set_option maxRecDepth 100000 in
set_option maxHeartbeats 4000000 in
theorem c_X12_mean {l : Launch} {E : State → Prop} {D : va_G} {cy : Nat → ClassId} {ad : Nat → Nat} {L : List Nat} {mem : gMem} {p0 : Int32} {p1 : Int32} {rv : Int64} {memz : gMem} (hk : gOk ad L) (hL : ∀ o ∈ LM0, o ∈ L) (hE : gEok ad L E)  (h : f_X12_mean mem p0 p1 = some (rv, memz)) : gMet l yX12_mean cX12_mean 5 (some .long) 5 127 E D cy shM ad L [.ref (ad 0), .int p0, .int p1] mem memz (some (.long rv)) := by
  refine g_go (own := RX12) (by decide +kernel) rfl hE (Nat.le_of_ble_eq_true rfl) ?_
  intro p e s m args below meth c R Q hargs hR hQ hEs hC hr hX H locs ls hH hl
  have hF := gF_of hk
  have hl : lv_has ls 5 [(0, .ref (ad 0)), (1, .int p0), (2, .int p1)] := hl
  refine lv_aload_n hC.x hC.b dX12_mean_0 rfl (lv_at hl 0 rfl) ?_
  refine lv_iload_n hC.x hC.b dX12_mean_1 rfl (lv_at hl 1 rfl) ?_
  obtain ⟨x1, hf1, h⟩ := bd_e h
  refine c_V1 (As := [.int p0]) (rest := []) (o := 0) (q := (RX12, TX12, 74)) hC hX hE.2.1 hF hH (c_X12_isBoard (l := l) hk hL hE hf1) kw163 kw164 kw165 kw5 kw166 a_X12_isBoard.1 a_X12_isBoard.2 (hL _ mM0) sM0 rfl rfl hl.1 (rmk hR (by decide) (by decide)) (Nat.le_of_ble_eq_true rfl) dX12_mean_2 (fun H locs hH => ?_)
  refine b_if_eq (tgt := 25) hC dX12_mean_5 (by decide) h (fun h => ?_) (fun h => ?_)
  · refine lv_ldc2 (v := -9223372036854775808) hC.x hC.b hC.ow (hC.ts _ kw1006) dX12_mean_25 ?_
    rw [hQ]
    exact e_l hC hr hH h dX12_mean_28
  · refine lv_aload_n hC.x hC.b dX12_mean_8 rfl (lv_at hl 0 rfl) ?_
    refine lv_iload_n hC.x hC.b dX12_mean_9 rfl (lv_at hl 2 rfl) ?_
    refine lv_iconst (v := 0) hC.x hC.b dX12_mean_10 rfl ?_
    refine lv_iconst (v := 1) hC.x hC.b dX12_mean_11 rfl ?_
    obtain ⟨x2, hf2, h⟩ := bd_e h
    refine c_V1 (As := [.int p1, .int (0 : Int32), .int (1 : Int32)]) (rest := []) (o := 0) (q := (RX12, TX12, 74)) hC hX hE.2.1 hF hH (c_X12_in (l := l) hk hL hE hf2) kw167 kw168 kw169 kw5 kw170 a_X12_in.1 a_X12_in.2 (hL _ mM0) sM0 rfl rfl hl.1 (rmk hR (by decide) (by decide)) (Nat.le_of_ble_eq_true rfl) dX12_mean_12 (fun H locs hH => ?_)
    refine b_if_eq (tgt := 25) hC dX12_mean_15 (by decide) h (fun h => ?_) (fun h => ?_)
    · refine lv_ldc2 (v := -9223372036854775808) hC.x hC.b hC.ow (hC.ts _ kw1006) dX12_mean_25 ?_
      rw [hQ]
      exact e_l hC hr hH h dX12_mean_28
    · refine lv_aload_n hC.x hC.b dX12_mean_18 rfl (lv_at hl 0 rfl) ?_
      refine r_geti hC hH fl_X12_7_12 (hL _ mM0) sM0 rfl dX12_mean_19 ?_
      refine b_if_ne (tgt := 29) hC dX12_mean_22 (by decide) h (fun h => ?_) (fun h => ?_)
      · refine lv_iconst (v := 0) hC.x hC.b dX12_mean_29 rfl ?_
        refine lv_istore_n (lv' := [(3, .int (0 : Int32)), (0, .ref (ad 0)), (1, .int p0), (2, .int p1)]) hC.x hC.b dX12_mean_30 rfl hl (by decide) rfl (fun ls hl => ?_)
        refine lv_iconst (v := 0) hC.x hC.b dX12_mean_31 rfl ?_
        refine lv_istore (lv' := [(4, .int (0 : Int32)), (3, .int (0 : Int32)), (0, .ref (ad 0)), (1, .int p0), (2, .int p1)]) hC.x hC.b dX12_mean_32 hl (by decide) rfl (fun ls hl => ?_)
        obtain ⟨j3, ej3, h⟩ := jn_e h
        have hj3 : ∀ (x12 : Int32) (m13 : gMem) (H : Heap) (locs : List Loc) (ls : Array Slot), (j3 x12 m13) = some (rv, memz) → gH D cy shM ad L (gA ad L) s.heap m13 H locs → lv_has ls 5 [(0, .ref (ad 0)), (2, .int p1), (3, .int x12)] → W p l e R s m args below meth c H locs 0 0 Q (F0 m 63 ls []) := by
          intro x12 m13 H locs ls h hH hl
          have h := ap2 ej3 h
          refine lv_aload_n hC.x hC.b dX12_mean_63 rfl (lv_at hl 0 rfl) ?_
          refine lv_iload_n hC.x hC.b dX12_mean_64 rfl (lv_at hl 2 rfl) ?_
          refine lv_aload_n hC.x hC.b dX12_mean_65 rfl (lv_at hl 0 rfl) ?_
          refine r_geti hC hH fl_X12_7_12 (hL _ mM0) sM0 rfl dX12_mean_66 ?_
          refine lv_iload_n hC.x hC.b dX12_mean_69 rfl (lv_at hl 1 rfl) ?_
          obtain ⟨y14, hf14, h⟩ := bd_e h
          refine c_V1 (As := [.int x12, .int (gI m13 0 0), .int p1]) (rest := []) (o := 0) (q := (RX12, TX12, 74)) hC hX hE.2.1 hF hH (c_X12_lowest (l := l) hk hL hE hf14) kw1007 kw1008 kw1009 kw5 kw1010 a_X12_lowest.1 a_X12_lowest.2 (hL _ mM0) sM0 rfl rfl hl.1 (rmk hR (by decide) (by decide)) (Nat.le_of_ble_eq_true rfl) dX12_mean_70 (fun H locs hH => ?_)
          rw [hQ]
          exact e_l hC hr hH h dX12_mean_73
        clear ej3
        have hl4 : ∀ (n : Nat) (x5 : Int32) (x6 : Int32) (m7 : gMem) (H : Heap) (locs : List Loc) (ls : Array Slot), lq3 (s_X12_mean_34 j3 p0) n x5 x6 m7 = some (rv, memz) → gH D cy shM ad L (gA ad L) s.heap m7 H locs → lv_has ls 5 [(0, .ref (ad 0)), (1, .int p0), (2, .int p1), (3, .int x5), (4, .int x6)] → W p l e R s m args below meth c H locs 0 0 Q (F0 m 34 ls []) := by
          intro n
          induction n with
          | zero => intro x5 x6 m7 H locs ls h _ _; exact lq3_0 h
          | succ n ih4 =>
            intro x5 x6 m7 H locs ls h hH hl
            obtain ⟨self4, es4, h⟩ := lq3_s h
            refine lv_iload hC.x hC.b dX12_mean_34 (lv_at hl 4 rfl) ?_
            refine lv_aload_n hC.x hC.b dX12_mean_36 rfl (lv_at hl 0 rfl) ?_
            refine r_geti hC hH fl_X12_7_12 (hL _ mM0) sM0 rfl dX12_mean_37 ?_
            refine b_ic_ge (tgt := 63) hC dX12_mean_40 (by decide) h (fun h => ?_) (fun h => ?_)
            · exact hj3 x5 m7 H locs ls h hH (lv_sub hl [0, 2, 3] rfl)
            · refine lv_iload_n hC.x hC.b dX12_mean_43 rfl (lv_at hl 3 rfl) ?_
              refine lv_aload_n hC.x hC.b dX12_mean_44 rfl (lv_at hl 0 rfl) ?_
              refine lv_iload hC.x hC.b dX12_mean_45 (lv_at hl 4 rfl) ?_
              refine lv_iload_n hC.x hC.b dX12_mean_47 rfl (lv_at hl 1 rfl) ?_
              refine lv_aload_n hC.x hC.b dX12_mean_48 rfl (lv_at hl 0 rfl) ?_
              refine r_geti hC hH fl_X12_13_12 (hL _ mM0) sM0 rfl dX12_mean_49 ?_
              obtain ⟨x9, m8, hf9, h⟩ := bd2_e h
              refine c_V1 (As := [.int x6, .int p0, .int (gI m7 0 1)]) (rest := [.int x5]) (o := 0) (q := (RX12, TX12, 74)) hC hX hE.2.1 hF hH (c_X12_noise (l := l) hk hL hE hf9) kw380 kw381 kw382 kw5 kw383 a_X12_noise.1 a_X12_noise.2 (hL _ mM0) sM0 rfl rfl hl.1 (rmk hR (by decide) (by decide)) (Nat.le_of_ble_eq_true rfl) dX12_mean_52 (fun H locs hH => ?_)
              refine lv_iadd hC.x hC.b dX12_mean_55 ?_
              refine n_i h (fun x10 h => ?_)
              refine lv_istore_n (lv' := [(3, .int x10), (0, .ref (ad 0)), (1, .int p0), (2, .int p1), (4, .int x6)]) hC.x hC.b dX12_mean_56 rfl hl (by decide) rfl (fun ls hl => ?_)
              refine i_inc (lv' := fun x11 => [(4, .int x11), (3, .int x10), (0, .ref (ad 0)), (1, .int p0), (2, .int p1)]) hC dX12_mean_57 hl (k := 4) rfl (by decide) (fun _ => rfl) (z := 1) rfl h (fun x11 ls h hl => ?_)
              refine lv_goto (tgt := 34) hC.x hC.b dX12_mean_60 (by decide) ?_
              exact ih4 x10 x11 m8 H locs ls (ap3 es4 h) hH (lv_sub hl [2, 3, 4, 1, 0] rfl)
        exact hl4 _ (0 : Int32) (0 : Int32) mem H locs ls h hH (lv_sub hl [2, 3, 4, 1, 0] rfl)
      · refine lv_ldc2 (v := -9223372036854775808) hC.x hC.b hC.ow (hC.ts _ kw1006) dX12_mean_25 ?_
        rw [hQ]
        exact e_l hC hr hH h dX12_mean_28
theorem a_X12_heavyGoes : noMH yX12_heavyGoes.cls ∧ arity yX12_heavyGoes.desc 2 := by decide +kernel
def f_X12_goesAct (mem : gMem) (p0 : Int32) (p1 : Int32) : Option (Int32 × gMem) := if okI p0 4 then lt1 (gI mem 2 (ix p0)) fun (x1 : Int32) => if x1 = 1 then (bd2 (f_X12_heavyGoes mem p0 p1) fun (x3 : Int32) (m2 : gMem) => some (x3, m2)) else if x1 = 4 then (bd (f_X12_body mem (51 : Int32)) fun (m4 : gMem) => bd2 (f_X12_heavyGoes m4 p0 (p1 + (1 : Int32))) fun (x6 : Int32) (m5 : gMem) => some (x6, m5)) else if x1 = 6 then (bd (f_X12_body mem (70 : Int32)) fun (m7 : gMem) => bd2 (f_X12_walkerGoes m7 p0 p1) fun (x9 : Int32) (m8 : gMem) => bd2 (f_X12_walkerTreads m8 p0 (2 : Int32)) fun (x11 : Int32) (m10 : gMem) => some ((x9 + x11), m10)) else bd2 (f_X12_walkerGoes mem p0 p1) fun (x13 : Int32) (m12 : gMem) => some (x13, m12) else none
set_option maxRecDepth 100000 in
set_option maxHeartbeats 4000000 in
theorem c_X12_goesAct {l : Launch} {E : State → Prop} {D : va_G} {cy : Nat → ClassId} {ad : Nat → Nat} {L : List Nat} {mem : gMem} {p0 : Int32} {p1 : Int32} {rv : Int32} {memz : gMem} (hk : gOk ad L) (hL : ∀ o ∈ LM0, o ∈ L) (hE : gEok ad L E)  (h : f_X12_goesAct mem p0 p1 = some (rv, memz)) : gMet l yX12_goesAct cX12_goesAct 4 (some .int) 5 109 E D cy shM ad L [.ref (ad 0), .int p0, .int p1] mem memz (some (.int rv)) := by
  refine g_go (own := RX12) (by decide +kernel) rfl hE (Nat.le_of_ble_eq_true rfl) ?_
  intro p e s m args below meth c R Q hargs hR hQ hEs hC hr hX H locs ls hH hl
  have hF := gF_of hk
  have hl : lv_has ls 4 [(0, .ref (ad 0)), (1, .int p0), (2, .int p1)] := hl
  refine lv_aload_n hC.x hC.b dX12_goesAct_0 rfl (lv_at hl 0 rfl) ?_
  refine r_getc (z := 2) hC hH fl_X12_33_12 (hL _ mM0) sM0 rfl dX12_goesAct_1 ?_
  refine lv_iload_n hC.x hC.b dX12_goesAct_4 rfl (lv_at hl 1 rfl) ?_
  refine r_iald hC hH (hL _ mM2) sM2 h dX12_goesAct_5 (fun h => ?_)
  refine n_i h (fun x1 h => ?_)
  by_cases hx0 : x1 = 1
  · have h := ifp hx0 h
    refine lv_lookup (off := 34) (tgt := 40) hC.x hC.b dX12_goesAct_6 (by decide) (by rw [hx0]; rfl) (by decide) ?_
    refine lv_aload_n hC.x hC.b dX12_goesAct_40 rfl (lv_at hl 0 rfl) ?_
    refine lv_iload_n hC.x hC.b dX12_goesAct_41 rfl (lv_at hl 1 rfl) ?_
    refine lv_iload_n hC.x hC.b dX12_goesAct_42 rfl (lv_at hl 2 rfl) ?_
    obtain ⟨x3, m2, hf3, h⟩ := bd2_e h
    refine c_V1 (As := [.int p0, .int p1]) (rest := []) (o := 0) (q := (RX12, TX12, 74)) hC hX hE.2.1 hF hH (c_X12_heavyGoes (l := l) hk hL hE hf3) kw1254 kw1255 kw1256 kw5 kw1257 a_X12_heavyGoes.1 a_X12_heavyGoes.2 (hL _ mM0) sM0 rfl rfl hl.1 (rmk hR (by decide) (by decide)) (Nat.le_of_ble_eq_true rfl) dX12_goesAct_43 (fun H locs hH => ?_)
    rw [hQ]
    exact e_i hC hr hH h dX12_goesAct_46
  have h := ifn hx0 h
  by_cases hx1 : x1 = 4
  · have h := ifp hx1 h
    refine lv_lookup (off := 41) (tgt := 47) hC.x hC.b dX12_goesAct_6 (by decide) (by rw [hx1]; rfl) (by decide) ?_
    refine lv_aload_n hC.x hC.b dX12_goesAct_47 rfl (lv_at hl 0 rfl) ?_
    refine lv_bipush (v := 51) hC.x hC.b dX12_goesAct_48 rfl ?_
    obtain ⟨m4, hf4, h⟩ := bd_e h
    refine c_V0 (As := [.int (51 : Int32)]) (rest := []) (o := 0) (q := (RX12, TX12, 74)) hC hX hE.2.1 hF hH (c_X12_body (l := l) hk hL hE hf4) kw1242 kw1243 kw1244 kw5 kw1245 a_X12_body.1 a_X12_body.2 (hL _ mM0) sM0 rfl rfl hl.1 (rmk hR (by decide) (by decide)) (Nat.le_of_ble_eq_true rfl) dX12_goesAct_50 (fun H locs hH => ?_)
    refine lv_aload_n hC.x hC.b dX12_goesAct_53 rfl (lv_at hl 0 rfl) ?_
    refine lv_iload_n hC.x hC.b dX12_goesAct_54 rfl (lv_at hl 1 rfl) ?_
    refine lv_iload_n hC.x hC.b dX12_goesAct_55 rfl (lv_at hl 2 rfl) ?_
    refine lv_iconst (v := 1) hC.x hC.b dX12_goesAct_56 rfl ?_
    refine lv_iadd hC.x hC.b dX12_goesAct_57 ?_
    obtain ⟨x6, m5, hf6, h⟩ := bd2_e h
    refine c_V1 (As := [.int p0, .int (p1 + (1 : Int32))]) (rest := []) (o := 0) (q := (RX12, TX12, 74)) hC hX hE.2.1 hF hH (c_X12_heavyGoes (l := l) hk hL hE hf6) kw1254 kw1255 kw1256 kw5 kw1257 a_X12_heavyGoes.1 a_X12_heavyGoes.2 (hL _ mM0) sM0 rfl rfl hl.1 (rmk hR (by decide) (by decide)) (Nat.le_of_ble_eq_true rfl) dX12_goesAct_58 (fun H locs hH => ?_)
    rw [hQ]
    exact e_i hC hr hH h dX12_goesAct_61
  have h := ifn hx1 h
  by_cases hx2 : x1 = 6
  · have h := ifp hx2 h
    refine lv_lookup (off := 56) (tgt := 62) hC.x hC.b dX12_goesAct_6 (by decide) (by rw [hx2]; rfl) (by decide) ?_
    refine lv_aload_n hC.x hC.b dX12_goesAct_62 rfl (lv_at hl 0 rfl) ?_
    refine lv_bipush (v := 70) hC.x hC.b dX12_goesAct_63 rfl ?_
    obtain ⟨m7, hf7, h⟩ := bd_e h
    refine c_V0 (As := [.int (70 : Int32)]) (rest := []) (o := 0) (q := (RX12, TX12, 74)) hC hX hE.2.1 hF hH (c_X12_body (l := l) hk hL hE hf7) kw1242 kw1243 kw1244 kw5 kw1245 a_X12_body.1 a_X12_body.2 (hL _ mM0) sM0 rfl rfl hl.1 (rmk hR (by decide) (by decide)) (Nat.le_of_ble_eq_true rfl) dX12_goesAct_65 (fun H locs hH => ?_)
    refine lv_aload_n hC.x hC.b dX12_goesAct_68 rfl (lv_at hl 0 rfl) ?_
    refine lv_iload_n hC.x hC.b dX12_goesAct_69 rfl (lv_at hl 1 rfl) ?_
    refine lv_iload_n hC.x hC.b dX12_goesAct_70 rfl (lv_at hl 2 rfl) ?_
    obtain ⟨x9, m8, hf9, h⟩ := bd2_e h
    refine c_V1 (As := [.int p0, .int p1]) (rest := []) (o := 0) (q := (RX12, TX12, 74)) hC hX hE.2.1 hF hH (c_X12_walkerGoes (l := l) hk hL hE hf9) kw1258 kw1259 kw1260 kw5 kw1261 a_X12_walkerGoes.1 a_X12_walkerGoes.2 (hL _ mM0) sM0 rfl rfl hl.1 (rmk hR (by decide) (by decide)) (Nat.le_of_ble_eq_true rfl) dX12_goesAct_71 (fun H locs hH => ?_)
    refine lv_istore_n (lv' := [(3, .int x9), (0, .ref (ad 0)), (1, .int p0), (2, .int p1)]) hC.x hC.b dX12_goesAct_74 rfl hl (by decide) rfl (fun ls hl => ?_)
    refine lv_iload_n hC.x hC.b dX12_goesAct_75 rfl (lv_at hl 0 rfl) ?_
    refine lv_aload_n hC.x hC.b dX12_goesAct_76 rfl (lv_at hl 1 rfl) ?_
    refine lv_iload_n hC.x hC.b dX12_goesAct_77 rfl (lv_at hl 2 rfl) ?_
    refine lv_iconst (v := 2) hC.x hC.b dX12_goesAct_78 rfl ?_
    obtain ⟨x11, m10, hf11, h⟩ := bd2_e h
    refine c_V1 (As := [.int p0, .int (2 : Int32)]) (rest := [.int x9]) (o := 0) (q := (RX12, TX12, 74)) hC hX hE.2.1 hF hH (c_X12_walkerTreads (l := l) hk hL hE hf11) kw1246 kw1247 kw1248 kw5 kw1249 a_X12_walkerTreads.1 a_X12_walkerTreads.2 (hL _ mM0) sM0 rfl rfl hl.1 (rmk hR (by decide) (by decide)) (Nat.le_of_ble_eq_true rfl) dX12_goesAct_79 (fun H locs hH => ?_)
    refine lv_iadd hC.x hC.b dX12_goesAct_82 ?_
    rw [hQ]
    exact e_i hC hr hH h dX12_goesAct_83
  have h := ifn hx2 h
  refine lv_lookup (off := 78) (tgt := 84) hC.x hC.b dX12_goesAct_6 (by decide) (by have a0 := ne_ti (v := 1) (z := 1) rfl hx0; have a1 := ne_ti (v := 4) (z := 4) rfl hx1; have a2 := ne_ti (v := 6) (z := 6) rfl hx2; simp [Op.lookupswitch.offset, Ne.symm a0, a0, Ne.symm a1, a1, Ne.symm a2, a2]) (by decide) ?_
  refine lv_aload_n hC.x hC.b dX12_goesAct_84 rfl (lv_at hl 0 rfl) ?_
  refine lv_iload_n hC.x hC.b dX12_goesAct_85 rfl (lv_at hl 1 rfl) ?_
  refine lv_iload_n hC.x hC.b dX12_goesAct_86 rfl (lv_at hl 2 rfl) ?_
  obtain ⟨x13, m12, hf13, h⟩ := bd2_e h
  refine c_V1 (As := [.int p0, .int p1]) (rest := []) (o := 0) (q := (RX12, TX12, 74)) hC hX hE.2.1 hF hH (c_X12_walkerGoes (l := l) hk hL hE hf13) kw1258 kw1259 kw1260 kw5 kw1261 a_X12_walkerGoes.1 a_X12_walkerGoes.2 (hL _ mM0) sM0 rfl rfl hl.1 (rmk hR (by decide) (by decide)) (Nat.le_of_ble_eq_true rfl) dX12_goesAct_87 (fun H locs hH => ?_)
  rw [hQ]
  exact e_i hC hr hH h dX12_goesAct_90
theorem a_X12_takesClause : noMH yX12_takesClause.cls ∧ arity yX12_takesClause.desc 1 := by decide +kernel
def s_X12_goesText_15 (p0 : Int32) (self3 : Int32 → gMem → Option (Int32 × gMem)) (x4 : Int32) (m5 : gMem) : Option (Int32 × gMem) := bd2 (f_X12_takesClause m5 (((10 : Int32) * p0) + x4)) fun (x7 : Int32) (m6 : gMem) => if x7 = 0 then (some ((0 : Int32), m6)) else lt1 (x4 + (1 : Int32)) fun (x8 : Int32) => if okI p0 6 then lt1 (gsI m6 7 (ix p0) x8) fun (m9 : gMem) => if (gI m9 0 14) = (gI m9 0 13) then (some ((1 : Int32), m9)) else if x8 = (10 : Int32) then (some ((0 : Int32), m9)) else bd2 (f_X12_takes m9 (59 : Int32)) fun (x11 : Int32) (m10 : gMem) => if x11 = 0 then (some ((0 : Int32), m10)) else (self3 x8 m10) else none
def f_X12_goesText (mem : gMem) (p0 : Int32) : Option (Int32 × gMem) := lt1 (gsI mem 0 14 (0 : Int32)) fun (m1 : gMem) => lt1 (gsI m1 0 24 ((100 : Int32) * p0)) fun (m2 : gMem) => lq2 (s_X12_goesText_15 p0) 1000 (0 : Int32) m2
set_option maxRecDepth 100000 in
set_option maxHeartbeats 4000000 in
theorem c_X12_goesText {l : Launch} {E : State → Prop} {D : va_G} {cy : Nat → ClassId} {ad : Nat → Nat} {L : List Nat} {mem : gMem} {p0 : Int32} {rv : Int32} {memz : gMem} (hk : gOk ad L) (hL : ∀ o ∈ LM0, o ∈ L) (hE : gEok ad L E)  (h : f_X12_goesText mem p0 = some (rv, memz)) : gMet l yX12_goesText cX12_goesText 3 (some .boolean) 6 130 E D cy shM ad L [.ref (ad 0), .int p0] mem memz (some (.int rv)) := by
  refine g_go (own := RX12) (by decide +kernel) rfl hE (Nat.le_of_ble_eq_true rfl) ?_
  intro p e s m args below meth c R Q hargs hR hQ hEs hC hr hX H locs ls hH hl
  have hF := gF_of hk
  have hl : lv_has ls 3 [(0, .ref (ad 0)), (1, .int p0)] := hl
  refine lv_aload_n hC.x hC.b dX12_goesText_0 rfl (lv_at hl 0 rfl) ?_
  refine lv_iconst (v := 0) hC.x hC.b dX12_goesText_1 rfl ?_
  refine r_puti hC hF hH pl_X12_54_12 (hL _ mM0) sM0 rfl h dX12_goesText_2 (fun m1 H locs h hH => ?_)
  refine lv_aload_n hC.x hC.b dX12_goesText_5 rfl (lv_at hl 0 rfl) ?_
  refine lv_bipush (v := 100) hC.x hC.b dX12_goesText_6 rfl ?_
  refine lv_iload_n hC.x hC.b dX12_goesText_8 rfl (lv_at hl 1 rfl) ?_
  refine lv_imul hC.x hC.b dX12_goesText_9 ?_
  refine r_puti hC hF hH pl_X12_84_12 (hL _ mM0) sM0 rfl h dX12_goesText_10 (fun m2 H locs h hH => ?_)
  refine lv_iconst (v := 0) hC.x hC.b dX12_goesText_13 rfl ?_
  refine lv_istore_n (lv' := [(2, .int (0 : Int32)), (0, .ref (ad 0)), (1, .int p0)]) hC.x hC.b dX12_goesText_14 rfl hl (by decide) rfl (fun ls hl => ?_)
  have hl3 : ∀ (n : Nat) (x4 : Int32) (m5 : gMem) (H : Heap) (locs : List Loc) (ls : Array Slot), lq2 (s_X12_goesText_15 p0) n x4 m5 = some (rv, memz) → gH D cy shM ad L (gA ad L) s.heap m5 H locs → lv_has ls 3 [(0, .ref (ad 0)), (1, .int p0), (2, .int x4)] → W p l e R s m args below meth c H locs 0 0 Q (F0 m 15 ls []) := by
    intro n
    induction n with
    | zero => intro x4 m5 H locs ls h _ _; exact lq2_0 h
    | succ n ih3 =>
      intro x4 m5 H locs ls h hH hl
      obtain ⟨self3, es3, h⟩ := lq2_s h
      refine lv_aload_n hC.x hC.b dX12_goesText_15 rfl (lv_at hl 0 rfl) ?_
      refine lv_bipush (v := 10) hC.x hC.b dX12_goesText_16 rfl ?_
      refine lv_iload_n hC.x hC.b dX12_goesText_18 rfl (lv_at hl 1 rfl) ?_
      refine lv_imul hC.x hC.b dX12_goesText_19 ?_
      refine lv_iload_n hC.x hC.b dX12_goesText_20 rfl (lv_at hl 2 rfl) ?_
      refine lv_iadd hC.x hC.b dX12_goesText_21 ?_
      obtain ⟨x7, m6, hf7, h⟩ := bd2_e h
      refine c_V1 (As := [.int (((10 : Int32) * p0) + x4)]) (rest := []) (o := 0) (q := (RX12, TX12, 74)) hC hX hE.2.1 hF hH (c_X12_takesClause (l := l) hk hL hE hf7) kw637 kw638 kw639 kw5 kw640 a_X12_takesClause.1 a_X12_takesClause.2 (hL _ mM0) sM0 rfl rfl hl.1 (rmk hR (by decide) (by decide)) (Nat.le_of_ble_eq_true rfl) dX12_goesText_22 (fun H locs hH => ?_)
      refine b_if_ne (tgt := 30) hC dX12_goesText_25 (by decide) h (fun h => ?_) (fun h => ?_)
      · refine i_inc (lv' := fun x8 => [(2, .int x8), (0, .ref (ad 0)), (1, .int p0)]) hC dX12_goesText_30 hl (k := 2) rfl (by decide) (fun _ => rfl) (z := 1) rfl h (fun x8 ls h hl => ?_)
        refine lv_aload_n hC.x hC.b dX12_goesText_33 rfl (lv_at hl 1 rfl) ?_
        refine r_getc (z := 7) hC hH fl_X12_63_12 (hL _ mM0) sM0 rfl dX12_goesText_34 ?_
        refine lv_iload_n hC.x hC.b dX12_goesText_37 rfl (lv_at hl 2 rfl) ?_
        refine lv_iload_n hC.x hC.b dX12_goesText_38 rfl (lv_at hl 0 rfl) ?_
        refine r_iast hC hF hH (hL _ mM7) sM7 h dX12_goesText_39 (fun m9 H locs h hH => ?_)
        refine lv_aload_n hC.x hC.b dX12_goesText_40 rfl (lv_at hl 1 rfl) ?_
        refine r_geti hC hH fl_X12_54_12 (hL _ mM0) sM0 rfl dX12_goesText_41 ?_
        refine lv_aload_n hC.x hC.b dX12_goesText_44 rfl (lv_at hl 1 rfl) ?_
        refine r_geti hC hH fl_X12_51_12 (hL _ mM0) sM0 rfl dX12_goesText_45 ?_
        refine b_ic_ne (tgt := 53) hC dX12_goesText_48 (by decide) h (fun h => ?_) (fun h => ?_)
        · refine lv_iload_n hC.x hC.b dX12_goesText_53 rfl (lv_at hl 0 rfl) ?_
          refine lv_bipush (v := 10) hC.x hC.b dX12_goesText_54 rfl ?_
          refine b_ic_eq (tgt := 68) hC dX12_goesText_56 (by decide) h (fun h => ?_) (fun h => ?_)
          · refine lv_iconst (v := 0) hC.x hC.b dX12_goesText_68 rfl ?_
            rw [hQ]
            exact e_n hC hr rfl hH h dX12_goesText_69
          · refine lv_aload_n hC.x hC.b dX12_goesText_59 rfl (lv_at hl 1 rfl) ?_
            refine lv_bipush (v := 59) hC.x hC.b dX12_goesText_60 rfl ?_
            obtain ⟨x11, m10, hf11, h⟩ := bd2_e h
            refine c_V1 (As := [.int (59 : Int32)]) (rest := []) (o := 0) (q := (RX12, TX12, 74)) hC hX hE.2.1 hF hH (c_X12_takes (l := l) hk hL hE hf11) kw653 kw654 kw655 kw5 kw656 a_X12_takes.1 a_X12_takes.2 (hL _ mM0) sM0 rfl rfl hl.1 (rmk hR (by decide) (by decide)) (Nat.le_of_ble_eq_true rfl) dX12_goesText_62 (fun H locs hH => ?_)
            refine b_if_ne (tgt := 15) hC dX12_goesText_65 (by decide) h (fun h => ?_) (fun h => ?_)
            · exact ih3 x8 m10 H locs ls (ap2 es3 h) hH (lv_sub hl [1, 2, 0] rfl)
            · refine lv_iconst (v := 0) hC.x hC.b dX12_goesText_68 rfl ?_
              rw [hQ]
              exact e_n hC hr rfl hH h dX12_goesText_69
        · refine lv_iconst (v := 1) hC.x hC.b dX12_goesText_51 rfl ?_
          rw [hQ]
          exact e_n hC hr rfl hH h dX12_goesText_52
      · refine lv_iconst (v := 0) hC.x hC.b dX12_goesText_28 rfl ?_
        rw [hQ]
        exact e_n hC hr rfl hH h dX12_goesText_29
  exact hl3 _ (0 : Int32) m2 H locs ls h hH (lv_sub hl [1, 2, 0] rfl)
theorem a_X12_stirsBy : noMH yX12_stirsBy.cls ∧ arity yX12_stirsBy.desc 4 := by decide +kernel
def f_X12_step (mem : gMem) (p0 : Int32) (p1 : Int32) : Option (Int32 × gMem) := bd (f_X12_isWalker mem p0) fun (x1 : Int32) => if x1 = 0 then (some ((-1 : Int32), mem)) else bd (f_X12_isBoard p1) fun (x2 : Int32) => if x2 = 0 then (some ((-1 : Int32), mem)) else if okI p0 4 then bd (f_X12_areBeside (gI mem 4 (ix p0)) p1) fun (x3 : Int32) => if x3 = 0 then (some ((-2 : Int32), mem)) else if (gI mem 0 5) = 0 then (if (gI mem 0 1) ≤ (9990 : Int32) then (bd (f_X12_timeOf mem p0) fun (x4 : Int32) => lt1 (gsI mem 0 1 ((gI mem 0 1) + x4)) fun (m5 : gMem) => if okI p0 4 then lt1 (gsI m5 4 (ix p0) p1) fun (m6 : gMem) => bd2 (f_X12_stirsBy m6 p0 p1 (gI m6 0 1) (gI m6 0 2)) fun (x8 : Int32) (m7 : gMem) => lt1 (gsI m7 0 2 x8) fun (m9 : gMem) => jn ((fun (x11 : Int32) => if isB x11 then lt1 (gsI m9 0 5 x11) fun (m12 : gMem) => jn ((fun (x14 : Int32) => lt1 (gsI m12 0 2 x14) fun (m15 : gMem) => bd2 (f_X12_noise m15 p0 p1 (gI m15 0 1)) fun (x17 : Int32) (m16 : gMem) => some (x17, m16)) : Int32 → Option (Int32 × gMem)) fun j13 => if (gI m12 0 5) = 0 then ((j13 (gI m12 0 2))) else (j13 (0 : Int32)) else none) : Int32 → Option (Int32 × gMem)) fun j10 => if (gI m9 0 2) = (3 : Int32) then ((j10 (1 : Int32))) else (j10 (0 : Int32)) else none) else some ((-3 : Int32), mem)) else some ((-3 : Int32), mem) else none
set_option maxRecDepth 100000 in
set_option maxHeartbeats 4000000 in
theorem c_X12_step {l : Launch} {E : State → Prop} {D : va_G} {cy : Nat → ClassId} {ad : Nat → Nat} {L : List Nat} {mem : gMem} {p0 : Int32} {p1 : Int32} {rv : Int32} {memz : gMem} (hk : gOk ad L) (hL : ∀ o ∈ LM0, o ∈ L) (hE : gEok ad L E)  (h : f_X12_step mem p0 p1 = some (rv, memz)) : gMet l yX12_step cX12_step 3 (some .int) 6 153 E D cy shM ad L [.ref (ad 0), .int p0, .int p1] mem memz (some (.int rv)) := by
  refine g_go (own := RX12) (by decide +kernel) rfl hE (Nat.le_of_ble_eq_true rfl) ?_
  intro p e s m args below meth c R Q hargs hR hQ hEs hC hr hX H locs ls hH hl
  have hF := gF_of hk
  have hl : lv_has ls 3 [(0, .ref (ad 0)), (1, .int p0), (2, .int p1)] := hl
  refine lv_aload_n hC.x hC.b dX12_step_0 rfl (lv_at hl 0 rfl) ?_
  refine lv_iload_n hC.x hC.b dX12_step_1 rfl (lv_at hl 1 rfl) ?_
  obtain ⟨x1, hf1, h⟩ := bd_e h
  refine c_V1 (As := [.int p0]) (rest := []) (o := 0) (q := (RX12, TX12, 74)) hC hX hE.2.1 hF hH (c_X12_isWalker (l := l) hk hL hE hf1) kw376 kw377 kw378 kw5 kw379 a_X12_isWalker.1 a_X12_isWalker.2 (hL _ mM0) sM0 rfl rfl hl.1 (rmk hR (by decide) (by decide)) (Nat.le_of_ble_eq_true rfl) dX12_step_2 (fun H locs hH => ?_)
  refine b_if_eq (tgt := 16) hC dX12_step_5 (by decide) h (fun h => ?_) (fun h => ?_)
  · refine lv_iconst (v := -1) hC.x hC.b dX12_step_16 rfl ?_
    rw [hQ]
    exact e_i hC hr hH h dX12_step_17
  · refine lv_aload_n hC.x hC.b dX12_step_8 rfl (lv_at hl 0 rfl) ?_
    refine lv_iload_n hC.x hC.b dX12_step_9 rfl (lv_at hl 2 rfl) ?_
    obtain ⟨x2, hf2, h⟩ := bd_e h
    refine c_V1 (As := [.int p1]) (rest := []) (o := 0) (q := (RX12, TX12, 74)) hC hX hE.2.1 hF hH (c_X12_isBoard (l := l) hk hL hE hf2) kw163 kw164 kw165 kw5 kw166 a_X12_isBoard.1 a_X12_isBoard.2 (hL _ mM0) sM0 rfl rfl hl.1 (rmk hR (by decide) (by decide)) (Nat.le_of_ble_eq_true rfl) dX12_step_10 (fun H locs hH => ?_)
    refine b_if_ne (tgt := 18) hC dX12_step_13 (by decide) h (fun h => ?_) (fun h => ?_)
    · refine lv_aload_n hC.x hC.b dX12_step_18 rfl (lv_at hl 0 rfl) ?_
      refine lv_aload_n hC.x hC.b dX12_step_19 rfl (lv_at hl 0 rfl) ?_
      refine r_getc (z := 4) hC hH fl_X12_39_12 (hL _ mM0) sM0 rfl dX12_step_20 ?_
      refine lv_iload_n hC.x hC.b dX12_step_23 rfl (lv_at hl 1 rfl) ?_
      refine r_iald hC hH (hL _ mM4) sM4 h dX12_step_24 (fun h => ?_)
      refine lv_iload_n hC.x hC.b dX12_step_25 rfl (lv_at hl 2 rfl) ?_
      obtain ⟨x3, hf3, h⟩ := bd_e h
      refine c_V1 (As := [.int (gI mem 4 (ix p0)), .int p1]) (rest := []) (o := 0) (q := (RX12, TX12, 74)) hC hX hE.2.1 hF hH (c_X12_areBeside (l := l) hk hL hE hf3) kw747 kw748 kw749 kw5 kw750 a_X12_areBeside.1 a_X12_areBeside.2 (hL _ mM0) sM0 rfl rfl hl.1 (rmk hR (by decide) (by decide)) (Nat.le_of_ble_eq_true rfl) dX12_step_26 (fun H locs hH => ?_)
      refine b_if_ne (tgt := 35) hC dX12_step_29 (by decide) h (fun h => ?_) (fun h => ?_)
      · refine lv_aload_n hC.x hC.b dX12_step_35 rfl (lv_at hl 0 rfl) ?_
        refine r_geti hC hH fl_X12_25_12 (hL _ mM0) sM0 rfl dX12_step_36 ?_
        refine b_if_ne (tgt := 52) hC dX12_step_39 (by decide) h (fun h => ?_) (fun h => ?_)
        · refine lv_bipush (v := -3) hC.x hC.b dX12_step_52 rfl ?_
          rw [hQ]
          exact e_i hC hr hH h dX12_step_54
        · refine lv_aload_n hC.x hC.b dX12_step_42 rfl (lv_at hl 0 rfl) ?_
          refine r_geti hC hH fl_X12_13_12 (hL _ mM0) sM0 rfl dX12_step_43 ?_
          refine lv_sipush (v := 9990) hC.x hC.b dX12_step_46 rfl ?_
          refine b_ic_le (tgt := 55) hC dX12_step_49 (by decide) h (fun h => ?_) (fun h => ?_)
          · refine lv_aload_n hC.x hC.b dX12_step_55 rfl (lv_at hl 0 rfl) ?_
            refine lv_dup hC.x hC.b dX12_step_56 rfl ?_
            refine r_geti hC hH fl_X12_13_12 (hL _ mM0) sM0 rfl dX12_step_57 ?_
            refine lv_aload_n hC.x hC.b dX12_step_60 rfl (lv_at hl 0 rfl) ?_
            refine lv_iload_n hC.x hC.b dX12_step_61 rfl (lv_at hl 1 rfl) ?_
            obtain ⟨x4, hf4, h⟩ := bd_e h
            refine c_V1 (As := [.int p0]) (rest := [.int (gI mem 0 1), .ref (ad 0)]) (o := 0) (q := (RX12, TX12, 74)) hC hX hE.2.1 hF hH (c_X12_timeOf (l := l) hk hL hE hf4) kw755 kw756 kw757 kw5 kw758 a_X12_timeOf.1 a_X12_timeOf.2 (hL _ mM0) sM0 rfl rfl hl.1 (rmk hR (by decide) (by decide)) (Nat.le_of_ble_eq_true rfl) dX12_step_62 (fun H locs hH => ?_)
            refine lv_iadd hC.x hC.b dX12_step_65 ?_
            refine r_puti hC hF hH pl_X12_13_12 (hL _ mM0) sM0 rfl h dX12_step_66 (fun m5 H locs h hH => ?_)
            refine lv_aload_n hC.x hC.b dX12_step_69 rfl (lv_at hl 0 rfl) ?_
            refine r_getc (z := 4) hC hH fl_X12_39_12 (hL _ mM0) sM0 rfl dX12_step_70 ?_
            refine lv_iload_n hC.x hC.b dX12_step_73 rfl (lv_at hl 1 rfl) ?_
            refine lv_iload_n hC.x hC.b dX12_step_74 rfl (lv_at hl 2 rfl) ?_
            refine r_iast hC hF hH (hL _ mM4) sM4 h dX12_step_75 (fun m6 H locs h hH => ?_)
            refine lv_aload_n hC.x hC.b dX12_step_76 rfl (lv_at hl 0 rfl) ?_
            refine lv_aload_n hC.x hC.b dX12_step_77 rfl (lv_at hl 0 rfl) ?_
            refine lv_iload_n hC.x hC.b dX12_step_78 rfl (lv_at hl 1 rfl) ?_
            refine lv_iload_n hC.x hC.b dX12_step_79 rfl (lv_at hl 2 rfl) ?_
            refine lv_aload_n hC.x hC.b dX12_step_80 rfl (lv_at hl 0 rfl) ?_
            refine r_geti hC hH fl_X12_13_12 (hL _ mM0) sM0 rfl dX12_step_81 ?_
            refine lv_aload_n hC.x hC.b dX12_step_84 rfl (lv_at hl 0 rfl) ?_
            refine r_geti hC hH fl_X12_16_12 (hL _ mM0) sM0 rfl dX12_step_85 ?_
            obtain ⟨x8, m7, hf8, h⟩ := bd2_e h
            refine c_V1 (As := [.int p0, .int p1, .int (gI m6 0 1), .int (gI m6 0 2)]) (rest := [.ref (ad 0)]) (o := 0) (q := (RX12, TX12, 74)) hC hX hE.2.1 hF hH (c_X12_stirsBy (l := l) hk hL hE hf8) kw759 kw760 kw761 kw5 kw762 a_X12_stirsBy.1 a_X12_stirsBy.2 (hL _ mM0) sM0 rfl rfl hl.1 (rmk hR (by decide) (by decide)) (Nat.le_of_ble_eq_true rfl) dX12_step_88 (fun H locs hH => ?_)
            refine r_puti hC hF hH pl_X12_16_12 (hL _ mM0) sM0 rfl h dX12_step_91 (fun m9 H locs h hH => ?_)
            refine lv_aload_n hC.x hC.b dX12_step_94 rfl (lv_at hl 0 rfl) ?_
            refine lv_aload_n hC.x hC.b dX12_step_95 rfl (lv_at hl 0 rfl) ?_
            refine r_geti hC hH fl_X12_16_12 (hL _ mM0) sM0 rfl dX12_step_96 ?_
            refine lv_iconst (v := 3) hC.x hC.b dX12_step_99 rfl ?_
            obtain ⟨j10, ej10, h⟩ := jn_e h
            have hj10 : ∀ (x11 : Int32) (H : Heap) (locs : List Loc) (ls : Array Slot), (j10 x11) = some (rv, memz) → gH D cy shM ad L (gA ad L) s.heap m9 H locs → lv_has ls 3 [(0, .ref (ad 0)), (1, .int p0), (2, .int p1)] → W p l e R s m args below meth c H locs 0 0 Q (F0 m 108 ls [.int x11, .ref (ad 0)]) := by
              intro x11 H locs ls h hH hl
              have h := ap1 ej10 h
              refine r_putz hC hF hH pl_X12_25_12 (hL _ mM0) sM0 rfl h dX12_step_108 (fun m12 H locs h hH => ?_)
              refine lv_aload_n hC.x hC.b dX12_step_111 rfl (lv_at hl 0 rfl) ?_
              refine lv_aload_n hC.x hC.b dX12_step_112 rfl (lv_at hl 0 rfl) ?_
              refine r_geti hC hH fl_X12_25_12 (hL _ mM0) sM0 rfl dX12_step_113 ?_
              obtain ⟨j13, ej13, h⟩ := jn_e h
              have hj13 : ∀ (x14 : Int32) (H : Heap) (locs : List Loc) (ls : Array Slot), (j13 x14) = some (rv, memz) → gH D cy shM ad L (gA ad L) s.heap m12 H locs → lv_has ls 3 [(0, .ref (ad 0)), (1, .int p0), (2, .int p1)] → W p l e R s m args below meth c H locs 0 0 Q (F0 m 127 ls [.int x14, .ref (ad 0)]) := by
                intro x14 H locs ls h hH hl
                have h := ap1 ej13 h
                refine r_puti hC hF hH pl_X12_16_12 (hL _ mM0) sM0 rfl h dX12_step_127 (fun m15 H locs h hH => ?_)
                refine lv_aload_n hC.x hC.b dX12_step_130 rfl (lv_at hl 0 rfl) ?_
                refine lv_iload_n hC.x hC.b dX12_step_131 rfl (lv_at hl 1 rfl) ?_
                refine lv_iload_n hC.x hC.b dX12_step_132 rfl (lv_at hl 2 rfl) ?_
                refine lv_aload_n hC.x hC.b dX12_step_133 rfl (lv_at hl 0 rfl) ?_
                refine r_geti hC hH fl_X12_13_12 (hL _ mM0) sM0 rfl dX12_step_134 ?_
                obtain ⟨x17, m16, hf17, h⟩ := bd2_e h
                refine c_V1 (As := [.int p0, .int p1, .int (gI m15 0 1)]) (rest := []) (o := 0) (q := (RX12, TX12, 74)) hC hX hE.2.1 hF hH (c_X12_noise (l := l) hk hL hE hf17) kw380 kw381 kw382 kw5 kw383 a_X12_noise.1 a_X12_noise.2 (hL _ mM0) sM0 rfl rfl hl.1 (rmk hR (by decide) (by decide)) (Nat.le_of_ble_eq_true rfl) dX12_step_137 (fun H locs hH => ?_)
                rw [hQ]
                exact e_i hC hr hH h dX12_step_140
              clear ej13
              refine b_if_eq (tgt := 123) hC dX12_step_116 (by decide) h (fun h => ?_) (fun h => ?_)
              · refine lv_aload_n hC.x hC.b dX12_step_123 rfl (lv_at hl 0 rfl) ?_
                refine r_geti hC hH fl_X12_16_12 (hL _ mM0) sM0 rfl dX12_step_124 ?_
                exact hj13 (gI m12 0 2) H locs ls h hH (lv_sub hl [0, 1, 2] rfl)
              · refine lv_iconst (v := 0) hC.x hC.b dX12_step_119 rfl ?_
                refine lv_goto (tgt := 127) hC.x hC.b dX12_step_120 (by decide) ?_
                exact hj13 (0 : Int32) H locs ls h hH (lv_sub hl [0, 1, 2] rfl)
            clear ej10
            refine b_ic_ne (tgt := 107) hC dX12_step_100 (by decide) h (fun h => ?_) (fun h => ?_)
            · refine lv_iconst (v := 0) hC.x hC.b dX12_step_107 rfl ?_
              exact hj10 (0 : Int32) H locs ls h hH (lv_sub hl [0, 1, 2] rfl)
            · refine lv_iconst (v := 1) hC.x hC.b dX12_step_103 rfl ?_
              refine lv_goto (tgt := 108) hC.x hC.b dX12_step_104 (by decide) ?_
              exact hj10 (1 : Int32) H locs ls h hH (lv_sub hl [0, 1, 2] rfl)
          · refine lv_bipush (v := -3) hC.x hC.b dX12_step_52 rfl ?_
            rw [hQ]
            exact e_i hC hr hH h dX12_step_54
      · refine lv_bipush (v := -2) hC.x hC.b dX12_step_32 rfl ?_
        rw [hQ]
        exact e_i hC hr hH h dX12_step_34
    · refine lv_iconst (v := -1) hC.x hC.b dX12_step_16 rfl ?_
      rw [hQ]
      exact e_i hC hr hH h dX12_step_17
theorem pl_X12_109_12 : gPl RX12 109 12 32 "I" := ⟨RX12, TX12, 74, tyX12, "OnTiptoeModel", rfl, inW12, tyX12_ok, nmX12, by decide, kw109, Or.inl rfl, rfl, rfl⟩
theorem pl_X12_112_12 : gPl RX12 112 12 33 "I" := ⟨RX12, TX12, 74, tyX12, "OnTiptoeModel", rfl, inW12, tyX12_ok, nmX12, by decide, kw110, Or.inl rfl, rfl, rfl⟩
theorem pl_X12_115_12 : gPl RX12 115 12 34 "I" := ⟨RX12, TX12, 74, tyX12, "OnTiptoeModel", rfl, inW12, tyX12_ok, nmX12, by decide, kw111, Or.inl rfl, rfl, rfl⟩
theorem fl_X12_109_12 : gFl RX12 109 12 32 := ⟨RX12, TX12, 74, "OnTiptoeModel", rfl, inW12, by decide, kw109, Or.inl rfl⟩
theorem fl_X12_112_12 : gFl RX12 112 12 33 := ⟨RX12, TX12, 74, "OnTiptoeModel", rfl, inW12, by decide, kw110, Or.inl rfl⟩
theorem fl_X12_115_12 : gFl RX12 115 12 34 := ⟨RX12, TX12, 74, "OnTiptoeModel", rfl, inW12, by decide, kw111, Or.inl rfl⟩
def s_X12_goesBy_23 (p0 : Int32) (j4 : Int32 → gMem → Option (Int32 × gMem)) (self5 : Int32 → gMem → Option (Int32 × gMem)) (x6 : Int32) (m7 : gMem) : Option (Int32 × gMem) := if (gI m7 0 30) ≤ x6 then (some ((-5 : Int32), m7)) else if okI x6 12 then jn ((fun (m21 : gMem) => lt1 (x6 + (1 : Int32)) fun (x22 : Int32) => (self5 x22 m21)) : gMem → Option (Int32 × gMem)) fun j8 => jn ((lt1 (gsI m7 0 33 ((gI m7 0 33) + (1 : Int32))) fun (m17 : gMem) => jn ((fun (x19 : Int32) => lt1 (gsI m17 0 34 x19) fun (m20 : gMem) => (j8 m20)) : Int32 → Option (Int32 × gMem)) fun j18 => if (gI m17 0 34) = 0 then ((j18 (0 : Int32))) else (j18 ((gI m17 0 34) - (1 : Int32)))) : Option (Int32 × gMem)) fun j9 => if (gI m7 16 (ix x6)) < 0 then (j9) else if okI x6 12 then bd (f_X12_areBeside (gI m7 0 32) (gI m7 16 (ix x6))) fun (x10 : Int32) => if x10 = 0 then (j9) else bd (f_X12_timeOf m7 p0) fun (x11 : Int32) => lt1 (gsI m7 0 33 ((gI m7 0 33) + x11)) fun (m12 : gMem) => if okI x6 12 then lt1 (gsI m12 0 32 (gI m12 16 (ix x6))) fun (m13 : gMem) => bd2 (f_X12_stirsBy m13 p0 (gI m13 0 32) (gI m13 0 33) (gI m13 0 34)) fun (x15 : Int32) (m14 : gMem) => lt1 (gsI m14 0 34 x15) fun (m16 : gMem) => if (3 : Int32) ≤ (gI m16 0 34) then ((j4 x6 m16)) else (j8 m16) else none else none else none
def f_X12_goesBy (mem : gMem) (p0 : Int32) (p1 : Int32) (p2 : Int32) : Option (Int32 × gMem) := if okI p0 4 then lt1 (gsI mem 0 32 (gI mem 4 (ix p0))) fun (m1 : gMem) => lt1 (gsI m1 0 33 p1) fun (m2 : gMem) => lt1 (gsI m2 0 34 p2) fun (m3 : gMem) => jn ((fun (x23 : Int32) (m24 : gMem) => lt1 (gsI m24 0 34 (0 : Int32)) fun (m25 : gMem) => some (x23, m25)) : Int32 → gMem → Option (Int32 × gMem)) fun j4 => lq2 (s_X12_goesBy_23 p0 j4) 1000 (0 : Int32) m3 else none
set_option maxRecDepth 100000 in
set_option maxHeartbeats 4000000 in
theorem c_X12_goesBy {l : Launch} {E : State → Prop} {D : va_G} {cy : Nat → ClassId} {ad : Nat → Nat} {L : List Nat} {mem : gMem} {p0 : Int32} {p1 : Int32} {p2 : Int32} {rv : Int32} {memz : gMem} (hk : gOk ad L) (hL : ∀ o ∈ LM0, o ∈ L) (hE : gEok ad L E)  (h : f_X12_goesBy mem p0 p1 p2 = some (rv, memz)) : gMet l yX12_goesBy cX12_goesBy 5 (some .int) 6 153 E D cy shM ad L [.ref (ad 0), .int p0, .int p1, .int p2] mem memz (some (.int rv)) := by
  refine g_go (own := RX12) (by decide +kernel) rfl hE (Nat.le_of_ble_eq_true rfl) ?_
  intro p e s m args below meth c R Q hargs hR hQ hEs hC hr hX H locs ls hH hl
  have hF := gF_of hk
  have hl : lv_has ls 5 [(0, .ref (ad 0)), (1, .int p0), (2, .int p1), (3, .int p2)] := hl
  refine lv_aload_n hC.x hC.b dX12_goesBy_0 rfl (lv_at hl 0 rfl) ?_
  refine lv_aload_n hC.x hC.b dX12_goesBy_1 rfl (lv_at hl 0 rfl) ?_
  refine r_getc (z := 4) hC hH fl_X12_39_12 (hL _ mM0) sM0 rfl dX12_goesBy_2 ?_
  refine lv_iload_n hC.x hC.b dX12_goesBy_5 rfl (lv_at hl 1 rfl) ?_
  refine r_iald hC hH (hL _ mM4) sM4 h dX12_goesBy_6 (fun h => ?_)
  refine r_puti hC hF hH pl_X12_109_12 (hL _ mM0) sM0 rfl h dX12_goesBy_7 (fun m1 H locs h hH => ?_)
  refine lv_aload_n hC.x hC.b dX12_goesBy_10 rfl (lv_at hl 0 rfl) ?_
  refine lv_iload_n hC.x hC.b dX12_goesBy_11 rfl (lv_at hl 2 rfl) ?_
  refine r_puti hC hF hH pl_X12_112_12 (hL _ mM0) sM0 rfl h dX12_goesBy_12 (fun m2 H locs h hH => ?_)
  refine lv_aload_n hC.x hC.b dX12_goesBy_15 rfl (lv_at hl 0 rfl) ?_
  refine lv_iload_n hC.x hC.b dX12_goesBy_16 rfl (lv_at hl 3 rfl) ?_
  refine r_puti hC hF hH pl_X12_115_12 (hL _ mM0) sM0 rfl h dX12_goesBy_17 (fun m3 H locs h hH => ?_)
  refine lv_iconst (v := 0) hC.x hC.b dX12_goesBy_20 rfl ?_
  refine lv_istore (lv' := [(4, .int (0 : Int32)), (0, .ref (ad 0)), (1, .int p0), (2, .int p1), (3, .int p2)]) hC.x hC.b dX12_goesBy_21 hl (by decide) rfl (fun ls hl => ?_)
  obtain ⟨j4, ej4, h⟩ := jn_e h
  have hj4 : ∀ (x23 : Int32) (m24 : gMem) (H : Heap) (locs : List Loc) (ls : Array Slot), (j4 x23 m24) = some (rv, memz) → gH D cy shM ad L (gA ad L) s.heap m24 H locs → lv_has ls 5 [(0, .ref (ad 0)), (4, .int x23)] → W p l e R s m args below meth c H locs 0 0 Q (F0 m 151 ls []) := by
    intro x23 m24 H locs ls h hH hl
    have h := ap2 ej4 h
    refine lv_aload_n hC.x hC.b dX12_goesBy_151 rfl (lv_at hl 0 rfl) ?_
    refine lv_iconst (v := 0) hC.x hC.b dX12_goesBy_152 rfl ?_
    refine r_puti hC hF hH pl_X12_115_12 (hL _ mM0) sM0 rfl h dX12_goesBy_153 (fun m25 H locs h hH => ?_)
    refine lv_iload hC.x hC.b dX12_goesBy_156 (lv_at hl 1 rfl) ?_
    rw [hQ]
    exact e_i hC hr hH h dX12_goesBy_158
  clear ej4
  have hl5 : ∀ (n : Nat) (x6 : Int32) (m7 : gMem) (H : Heap) (locs : List Loc) (ls : Array Slot), lq2 (s_X12_goesBy_23 p0 j4) n x6 m7 = some (rv, memz) → gH D cy shM ad L (gA ad L) s.heap m7 H locs → lv_has ls 5 [(0, .ref (ad 0)), (1, .int p0), (4, .int x6)] → W p l e R s m args below meth c H locs 0 0 Q (F0 m 23 ls []) := by
    intro n
    induction n with
    | zero => intro x6 m7 H locs ls h _ _; exact lq2_0 h
    | succ n ih5 =>
      intro x6 m7 H locs ls h hH hl
      obtain ⟨self5, es5, h⟩ := lq2_s h
      refine lv_iload hC.x hC.b dX12_goesBy_23 (lv_at hl 2 rfl) ?_
      refine lv_aload_n hC.x hC.b dX12_goesBy_25 rfl (lv_at hl 0 rfl) ?_
      refine r_geti hC hH fl_X12_103_12 (hL _ mM0) sM0 rfl dX12_goesBy_26 ?_
      refine b_ic_ge (tgt := 165) hC dX12_goesBy_29 (by decide) h (fun h => ?_) (fun h => ?_)
      · refine lv_bipush (v := -5) hC.x hC.b dX12_goesBy_165 rfl ?_
        rw [hQ]
        exact e_i hC hr hH h dX12_goesBy_167
      · refine lv_aload_n hC.x hC.b dX12_goesBy_32 rfl (lv_at hl 0 rfl) ?_
        refine r_getc (z := 16) hC hH fl_X12_106_12 (hL _ mM0) sM0 rfl dX12_goesBy_33 ?_
        refine lv_iload hC.x hC.b dX12_goesBy_36 (lv_at hl 2 rfl) ?_
        refine r_iald hC hH (hL _ mM16) sM16 h dX12_goesBy_38 (fun h => ?_)
        obtain ⟨j8, ej8, h⟩ := jn_e h
        have hj8 : ∀ (m21 : gMem) (H : Heap) (locs : List Loc) (ls : Array Slot), (j8 m21) = some (rv, memz) → gH D cy shM ad L (gA ad L) s.heap m21 H locs → lv_has ls 5 [(0, .ref (ad 0)), (1, .int p0), (4, .int x6)] → W p l e R s m args below meth c H locs 0 0 Q (F0 m 159 ls []) := by
          intro m21 H locs ls h hH hl
          have h := ap1 ej8 h
          refine i_inc (lv' := fun x22 => [(4, .int x22), (0, .ref (ad 0)), (1, .int p0)]) hC dX12_goesBy_159 hl (k := 2) rfl (by decide) (fun _ => rfl) (z := 1) rfl h (fun x22 ls h hl => ?_)
          refine lv_goto (tgt := 23) hC.x hC.b dX12_goesBy_162 (by decide) ?_
          exact ih5 x22 m21 H locs ls (ap2 es5 h) hH (lv_sub hl [1, 2, 0] rfl)
        clear ej8
        obtain ⟨j9, ej9, h⟩ := jn_e h
        have hj9 : ∀  (H : Heap) (locs : List Loc) (ls : Array Slot), j9 = some (rv, memz) → gH D cy shM ad L (gA ad L) s.heap m7 H locs → lv_has ls 5 [(0, .ref (ad 0)), (1, .int p0), (4, .int x6)] → W p l e R s m args below meth c H locs 0 0 Q (F0 m 60 ls []) := by
          intro H locs ls h hH hl
          have h := ap0 ej9 h
          refine lv_aload_n hC.x hC.b dX12_goesBy_60 rfl (lv_at hl 0 rfl) ?_
          refine lv_dup hC.x hC.b dX12_goesBy_61 rfl ?_
          refine r_geti hC hH fl_X12_112_12 (hL _ mM0) sM0 rfl dX12_goesBy_62 ?_
          refine lv_iconst (v := 1) hC.x hC.b dX12_goesBy_65 rfl ?_
          refine lv_iadd hC.x hC.b dX12_goesBy_66 ?_
          refine r_puti hC hF hH pl_X12_112_12 (hL _ mM0) sM0 rfl h dX12_goesBy_67 (fun m17 H locs h hH => ?_)
          refine lv_aload_n hC.x hC.b dX12_goesBy_70 rfl (lv_at hl 0 rfl) ?_
          refine lv_aload_n hC.x hC.b dX12_goesBy_71 rfl (lv_at hl 0 rfl) ?_
          refine r_geti hC hH fl_X12_115_12 (hL _ mM0) sM0 rfl dX12_goesBy_72 ?_
          obtain ⟨j18, ej18, h⟩ := jn_e h
          have hj18 : ∀ (x19 : Int32) (H : Heap) (locs : List Loc) (ls : Array Slot), (j18 x19) = some (rv, memz) → gH D cy shM ad L (gA ad L) s.heap m17 H locs → lv_has ls 5 [(0, .ref (ad 0)), (1, .int p0), (4, .int x6)] → W p l e R s m args below meth c H locs 0 0 Q (F0 m 88 ls [.int x19, .ref (ad 0)]) := by
            intro x19 H locs ls h hH hl
            have h := ap1 ej18 h
            refine r_puti hC hF hH pl_X12_115_12 (hL _ mM0) sM0 rfl h dX12_goesBy_88 (fun m20 H locs h hH => ?_)
            refine lv_goto (tgt := 159) hC.x hC.b dX12_goesBy_91 (by decide) ?_
            exact hj8 m20 H locs ls h hH (lv_sub hl [0, 1, 2] rfl)
          clear ej18
          refine b_if_ne (tgt := 82) hC dX12_goesBy_75 (by decide) h (fun h => ?_) (fun h => ?_)
          · refine lv_aload_n hC.x hC.b dX12_goesBy_82 rfl (lv_at hl 0 rfl) ?_
            refine r_geti hC hH fl_X12_115_12 (hL _ mM0) sM0 rfl dX12_goesBy_83 ?_
            refine lv_iconst (v := 1) hC.x hC.b dX12_goesBy_86 rfl ?_
            refine lv_isub hC.x hC.b dX12_goesBy_87 ?_
            exact hj18 ((gI m17 0 34) - (1 : Int32)) H locs ls h hH (lv_sub hl [0, 1, 2] rfl)
          · refine lv_iconst (v := 0) hC.x hC.b dX12_goesBy_78 rfl ?_
            refine lv_goto (tgt := 88) hC.x hC.b dX12_goesBy_79 (by decide) ?_
            exact hj18 (0 : Int32) H locs ls h hH (lv_sub hl [0, 1, 2] rfl)
        clear ej9
        refine b_if_lt (tgt := 60) hC dX12_goesBy_39 (by decide) h (fun h => ?_) (fun h => ?_)
        · exact hj9  H locs ls h hH (lv_sub hl [0, 1, 2] rfl)
        · refine lv_aload_n hC.x hC.b dX12_goesBy_42 rfl (lv_at hl 0 rfl) ?_
          refine lv_aload_n hC.x hC.b dX12_goesBy_43 rfl (lv_at hl 0 rfl) ?_
          refine r_geti hC hH fl_X12_109_12 (hL _ mM0) sM0 rfl dX12_goesBy_44 ?_
          refine lv_aload_n hC.x hC.b dX12_goesBy_47 rfl (lv_at hl 0 rfl) ?_
          refine r_getc (z := 16) hC hH fl_X12_106_12 (hL _ mM0) sM0 rfl dX12_goesBy_48 ?_
          refine lv_iload hC.x hC.b dX12_goesBy_51 (lv_at hl 2 rfl) ?_
          refine r_iald hC hH (hL _ mM16) sM16 h dX12_goesBy_53 (fun h => ?_)
          obtain ⟨x10, hf10, h⟩ := bd_e h
          refine c_V1 (As := [.int (gI m7 0 32), .int (gI m7 16 (ix x6))]) (rest := []) (o := 0) (q := (RX12, TX12, 74)) hC hX hE.2.1 hF hH (c_X12_areBeside (l := l) hk hL hE hf10) kw747 kw748 kw749 kw5 kw750 a_X12_areBeside.1 a_X12_areBeside.2 (hL _ mM0) sM0 rfl rfl hl.1 (rmk hR (by decide) (by decide)) (Nat.le_of_ble_eq_true rfl) dX12_goesBy_54 (fun H locs hH => ?_)
          refine b_if_ne (tgt := 94) hC dX12_goesBy_57 (by decide) h (fun h => ?_) (fun h => ?_)
          · refine lv_aload_n hC.x hC.b dX12_goesBy_94 rfl (lv_at hl 0 rfl) ?_
            refine lv_dup hC.x hC.b dX12_goesBy_95 rfl ?_
            refine r_geti hC hH fl_X12_112_12 (hL _ mM0) sM0 rfl dX12_goesBy_96 ?_
            refine lv_aload_n hC.x hC.b dX12_goesBy_99 rfl (lv_at hl 0 rfl) ?_
            refine lv_iload_n hC.x hC.b dX12_goesBy_100 rfl (lv_at hl 1 rfl) ?_
            obtain ⟨x11, hf11, h⟩ := bd_e h
            refine c_V1 (As := [.int p0]) (rest := [.int (gI m7 0 33), .ref (ad 0)]) (o := 0) (q := (RX12, TX12, 74)) hC hX hE.2.1 hF hH (c_X12_timeOf (l := l) hk hL hE hf11) kw755 kw756 kw757 kw5 kw758 a_X12_timeOf.1 a_X12_timeOf.2 (hL _ mM0) sM0 rfl rfl hl.1 (rmk hR (by decide) (by decide)) (Nat.le_of_ble_eq_true rfl) dX12_goesBy_101 (fun H locs hH => ?_)
            refine lv_iadd hC.x hC.b dX12_goesBy_104 ?_
            refine r_puti hC hF hH pl_X12_112_12 (hL _ mM0) sM0 rfl h dX12_goesBy_105 (fun m12 H locs h hH => ?_)
            refine lv_aload_n hC.x hC.b dX12_goesBy_108 rfl (lv_at hl 0 rfl) ?_
            refine lv_aload_n hC.x hC.b dX12_goesBy_109 rfl (lv_at hl 0 rfl) ?_
            refine r_getc (z := 16) hC hH fl_X12_106_12 (hL _ mM0) sM0 rfl dX12_goesBy_110 ?_
            refine lv_iload hC.x hC.b dX12_goesBy_113 (lv_at hl 2 rfl) ?_
            refine r_iald hC hH (hL _ mM16) sM16 h dX12_goesBy_115 (fun h => ?_)
            refine r_puti hC hF hH pl_X12_109_12 (hL _ mM0) sM0 rfl h dX12_goesBy_116 (fun m13 H locs h hH => ?_)
            refine lv_aload_n hC.x hC.b dX12_goesBy_119 rfl (lv_at hl 0 rfl) ?_
            refine lv_aload_n hC.x hC.b dX12_goesBy_120 rfl (lv_at hl 0 rfl) ?_
            refine lv_iload_n hC.x hC.b dX12_goesBy_121 rfl (lv_at hl 1 rfl) ?_
            refine lv_aload_n hC.x hC.b dX12_goesBy_122 rfl (lv_at hl 0 rfl) ?_
            refine r_geti hC hH fl_X12_109_12 (hL _ mM0) sM0 rfl dX12_goesBy_123 ?_
            refine lv_aload_n hC.x hC.b dX12_goesBy_126 rfl (lv_at hl 0 rfl) ?_
            refine r_geti hC hH fl_X12_112_12 (hL _ mM0) sM0 rfl dX12_goesBy_127 ?_
            refine lv_aload_n hC.x hC.b dX12_goesBy_130 rfl (lv_at hl 0 rfl) ?_
            refine r_geti hC hH fl_X12_115_12 (hL _ mM0) sM0 rfl dX12_goesBy_131 ?_
            obtain ⟨x15, m14, hf15, h⟩ := bd2_e h
            refine c_V1 (As := [.int p0, .int (gI m13 0 32), .int (gI m13 0 33), .int (gI m13 0 34)]) (rest := [.ref (ad 0)]) (o := 0) (q := (RX12, TX12, 74)) hC hX hE.2.1 hF hH (c_X12_stirsBy (l := l) hk hL hE hf15) kw759 kw760 kw761 kw5 kw762 a_X12_stirsBy.1 a_X12_stirsBy.2 (hL _ mM0) sM0 rfl rfl hl.1 (rmk hR (by decide) (by decide)) (Nat.le_of_ble_eq_true rfl) dX12_goesBy_134 (fun H locs hH => ?_)
            refine r_puti hC hF hH pl_X12_115_12 (hL _ mM0) sM0 rfl h dX12_goesBy_137 (fun m16 H locs h hH => ?_)
            refine lv_aload_n hC.x hC.b dX12_goesBy_140 rfl (lv_at hl 0 rfl) ?_
            refine r_geti hC hH fl_X12_115_12 (hL _ mM0) sM0 rfl dX12_goesBy_141 ?_
            refine lv_iconst (v := 3) hC.x hC.b dX12_goesBy_144 rfl ?_
            refine b_ic_ge (tgt := 151) hC dX12_goesBy_145 (by decide) h (fun h => ?_) (fun h => ?_)
            · exact hj4 x6 m16 H locs ls h hH (lv_sub hl [0, 2] rfl)
            · refine lv_goto (tgt := 159) hC.x hC.b dX12_goesBy_148 (by decide) ?_
              exact hj8 m16 H locs ls h hH (lv_sub hl [0, 1, 2] rfl)
          · exact hj9  H locs ls h hH (lv_sub hl [0, 1, 2] rfl)
  exact hl5 _ (0 : Int32) m3 H locs ls h hH (lv_sub hl [1, 2, 0] rfl)
theorem a_X12_stays : noMH yX12_stays.cls ∧ arity yX12_stays.desc 2 := by decide +kernel
theorem a_X12_treads : noMH yX12_treads.cls ∧ arity yX12_treads.desc 4 := by decide +kernel
def s_X12_outBy_69 (j12 : gMem → Option (Int32 × gMem)) (x10 : Int32) (p0 : Int32) (p2 : Int32) (self13 : Int32 → gMem → Option (Int32 × gMem)) (x14 : Int32) (m15 : gMem) : Option (Int32 × gMem) := if (12 : Int32) ≤ x14 then ((j12 m15)) else if okI (((12 : Int32) * x10) + x14) 396 then jn ((fun (m19 : gMem) => lt1 (x14 + (1 : Int32)) fun (x20 : Int32) => (self13 x20 m19)) : gMem → Option (Int32 × gMem)) fun j16 => if (gI m15 17 (ix (((12 : Int32) * x10) + x14))) = 0 then ((j16 m15)) else bd (f_X12_stays m15 x10 x14) fun (m17 : gMem) => bd (f_X12_treads m17 p0 x10 x14 p2) fun (m18 : gMem) => (j16 m18) else none
def s_X12_outBy_38 (p0 : Int32) (p2 : Int32) (self9 : Int32 → gMem → Option (Int32 × gMem)) (x10 : Int32) (m11 : gMem) : Option (Int32 × gMem) := if (31 : Int32) ≤ x10 then (some ((-5 : Int32), m11)) else if okI (((12 : Int32) * x10) + (gI m11 0 4)) 396 then if (gI m11 17 (ix (((12 : Int32) * x10) + (gI m11 0 4)))) = 0 then (jn ((fun (m21 : gMem) => lt1 (x10 + (1 : Int32)) fun (x22 : Int32) => (self9 x22 m21)) : gMem → Option (Int32 × gMem)) fun j12 => lq2 (s_X12_outBy_69 j12 x10 p0 p2) 1000 (0 : Int32) m11) else some (x10, m11) else none
def s_X12_outBy_3 (j1 : gMem → Option (Int32 × gMem)) (self2 : Int32 → gMem → Option (Int32 × gMem)) (x3 : Int32) (m4 : gMem) : Option (Int32 × gMem) := if (396 : Int32) ≤ x3 then ((j1 m4)) else if okI x3 396 then lt1 (gsI m4 17 (ix x3) (0 : Int32)) fun (m5 : gMem) => lt1 (x3 + (1 : Int32)) fun (x6 : Int32) => (self2 x6 m5) else none
def f_X12_outBy (mem : gMem) (p0 : Int32) (p1 : Int32) (p2 : Int32) (p3 : Int32) : Option (Int32 × gMem) := jn ((fun (m7 : gMem) => if okI p1 396 then lt1 (gsI m7 17 (ix p1) ((1 : Int32) <<< (p3 &&& 31))) fun (m8 : gMem) => lq2 (s_X12_outBy_38 p0 p2) 1000 (0 : Int32) m8 else none) : gMem → Option (Int32 × gMem)) fun j1 => lq2 (s_X12_outBy_3 j1) 1000 (0 : Int32) mem
set_option maxRecDepth 100000 in
set_option maxHeartbeats 4000000 in
theorem c_X12_outBy {l : Launch} {E : State → Prop} {D : va_G} {cy : Nat → ClassId} {ad : Nat → Nat} {L : List Nat} {mem : gMem} {p0 : Int32} {p1 : Int32} {p2 : Int32} {p3 : Int32} {rv : Int32} {memz : gMem} (hk : gOk ad L) (hL : ∀ o ∈ LM0, o ∈ L) (hE : gEok ad L E)  (h : f_X12_outBy mem p0 p1 p2 p3 = some (rv, memz)) : gMet l yX12_outBy cX12_outBy 7 (some .int) 6 157 E D cy shM ad L [.ref (ad 0), .int p0, .int p1, .int p2, .int p3] mem memz (some (.int rv)) := by
  refine g_go (own := RX12) (by decide +kernel) rfl hE (Nat.le_of_ble_eq_true rfl) ?_
  intro p e s m args below meth c R Q hargs hR hQ hEs hC hr hX H locs ls hH hl
  have hF := gF_of hk
  have hl : lv_has ls 7 [(0, .ref (ad 0)), (1, .int p0), (2, .int p1), (3, .int p2), (4, .int p3)] := hl
  refine lv_iconst (v := 0) hC.x hC.b dX12_outBy_0 rfl ?_
  refine lv_istore (lv' := [(5, .int (0 : Int32)), (0, .ref (ad 0)), (1, .int p0), (2, .int p1), (3, .int p2), (4, .int p3)]) hC.x hC.b dX12_outBy_1 hl (by decide) rfl (fun ls hl => ?_)
  obtain ⟨j1, ej1, h⟩ := jn_e h
  have hj1 : ∀ (m7 : gMem) (H : Heap) (locs : List Loc) (ls : Array Slot), (j1 m7) = some (rv, memz) → gH D cy shM ad L (gA ad L) s.heap m7 H locs → lv_has ls 7 [(0, .ref (ad 0)), (1, .int p0), (2, .int p1), (3, .int p2), (4, .int p3)] → W p l e R s m args below meth c H locs 0 0 Q (F0 m 25 ls []) := by
    intro m7 H locs ls h hH hl
    have h := ap1 ej1 h
    refine lv_aload_n hC.x hC.b dX12_outBy_25 rfl (lv_at hl 0 rfl) ?_
    refine r_getc (z := 17) hC hH fl_X12_118_12 (hL _ mM0) sM0 rfl dX12_outBy_26 ?_
    refine lv_iload_n hC.x hC.b dX12_outBy_29 rfl (lv_at hl 2 rfl) ?_
    refine lv_iconst (v := 1) hC.x hC.b dX12_outBy_30 rfl ?_
    refine lv_iload hC.x hC.b dX12_outBy_31 (lv_at hl 4 rfl) ?_
    refine lv_ishl hC.x hC.b dX12_outBy_33 ?_
    refine r_iast hC hF hH (hL _ mM17) sM17 h dX12_outBy_34 (fun m8 H locs h hH => ?_)
    refine lv_iconst (v := 0) hC.x hC.b dX12_outBy_35 rfl ?_
    refine lv_istore (lv' := [(5, .int (0 : Int32)), (0, .ref (ad 0)), (1, .int p0), (2, .int p1), (3, .int p2), (4, .int p3)]) hC.x hC.b dX12_outBy_36 hl (by decide) rfl (fun ls hl => ?_)
    have hl9 : ∀ (n : Nat) (x10 : Int32) (m11 : gMem) (H : Heap) (locs : List Loc) (ls : Array Slot), lq2 (s_X12_outBy_38 p0 p2) n x10 m11 = some (rv, memz) → gH D cy shM ad L (gA ad L) s.heap m11 H locs → lv_has ls 7 [(0, .ref (ad 0)), (1, .int p0), (3, .int p2), (5, .int x10)] → W p l e R s m args below meth c H locs 0 0 Q (F0 m 38 ls []) := by
      intro n
      induction n with
      | zero => intro x10 m11 H locs ls h _ _; exact lq2_0 h
      | succ n ih9 =>
        intro x10 m11 H locs ls h hH hl
        obtain ⟨self9, es9, h⟩ := lq2_s h
        refine lv_iload hC.x hC.b dX12_outBy_38 (lv_at hl 3 rfl) ?_
        refine lv_bipush (v := 31) hC.x hC.b dX12_outBy_40 rfl ?_
        refine b_ic_ge (tgt := 125) hC dX12_outBy_42 (by decide) h (fun h => ?_) (fun h => ?_)
        · refine lv_bipush (v := -5) hC.x hC.b dX12_outBy_125 rfl ?_
          rw [hQ]
          exact e_i hC hr hH h dX12_outBy_127
        · refine lv_aload_n hC.x hC.b dX12_outBy_45 rfl (lv_at hl 0 rfl) ?_
          refine r_getc (z := 17) hC hH fl_X12_118_12 (hL _ mM0) sM0 rfl dX12_outBy_46 ?_
          refine lv_bipush (v := 12) hC.x hC.b dX12_outBy_49 rfl ?_
          refine lv_iload hC.x hC.b dX12_outBy_51 (lv_at hl 3 rfl) ?_
          refine lv_imul hC.x hC.b dX12_outBy_53 ?_
          refine lv_aload_n hC.x hC.b dX12_outBy_54 rfl (lv_at hl 0 rfl) ?_
          refine r_geti hC hH fl_X12_22_12 (hL _ mM0) sM0 rfl dX12_outBy_55 ?_
          refine lv_iadd hC.x hC.b dX12_outBy_58 ?_
          refine r_iald hC hH (hL _ mM17) sM17 h dX12_outBy_59 (fun h => ?_)
          refine b_if_eq (tgt := 66) hC dX12_outBy_60 (by decide) h (fun h => ?_) (fun h => ?_)
          · refine lv_iconst (v := 0) hC.x hC.b dX12_outBy_66 rfl ?_
            refine lv_istore (lv' := [(6, .int (0 : Int32)), (0, .ref (ad 0)), (1, .int p0), (3, .int p2), (5, .int x10)]) hC.x hC.b dX12_outBy_67 hl (by decide) rfl (fun ls hl => ?_)
            obtain ⟨j12, ej12, h⟩ := jn_e h
            have hj12 : ∀ (m21 : gMem) (H : Heap) (locs : List Loc) (ls : Array Slot), (j12 m21) = some (rv, memz) → gH D cy shM ad L (gA ad L) s.heap m21 H locs → lv_has ls 7 [(0, .ref (ad 0)), (1, .int p0), (3, .int p2), (5, .int x10)] → W p l e R s m args below meth c H locs 0 0 Q (F0 m 119 ls []) := by
              intro m21 H locs ls h hH hl
              have h := ap1 ej12 h
              refine i_inc (lv' := fun x22 => [(5, .int x22), (0, .ref (ad 0)), (1, .int p0), (3, .int p2)]) hC dX12_outBy_119 hl (k := 3) rfl (by decide) (fun _ => rfl) (z := 1) rfl h (fun x22 ls h hl => ?_)
              refine lv_goto (tgt := 38) hC.x hC.b dX12_outBy_122 (by decide) ?_
              exact ih9 x22 m21 H locs ls (ap2 es9 h) hH (lv_sub hl [1, 2, 3, 0] rfl)
            clear ej12
            have hl13 : ∀ (n : Nat) (x14 : Int32) (m15 : gMem) (H : Heap) (locs : List Loc) (ls : Array Slot), lq2 (s_X12_outBy_69 j12 x10 p0 p2) n x14 m15 = some (rv, memz) → gH D cy shM ad L (gA ad L) s.heap m15 H locs → lv_has ls 7 [(0, .ref (ad 0)), (1, .int p0), (3, .int p2), (5, .int x10), (6, .int x14)] → W p l e R s m args below meth c H locs 0 0 Q (F0 m 69 ls []) := by
              intro n
              induction n with
              | zero => intro x14 m15 H locs ls h _ _; exact lq2_0 h
              | succ n ih13 =>
                intro x14 m15 H locs ls h hH hl
                obtain ⟨self13, es13, h⟩ := lq2_s h
                refine lv_iload hC.x hC.b dX12_outBy_69 (lv_at hl 4 rfl) ?_
                refine lv_bipush (v := 12) hC.x hC.b dX12_outBy_71 rfl ?_
                refine b_ic_ge (tgt := 119) hC dX12_outBy_73 (by decide) h (fun h => ?_) (fun h => ?_)
                · exact hj12 m15 H locs ls h hH (lv_sub hl [0, 1, 2, 3] rfl)
                · refine lv_aload_n hC.x hC.b dX12_outBy_76 rfl (lv_at hl 0 rfl) ?_
                  refine r_getc (z := 17) hC hH fl_X12_118_12 (hL _ mM0) sM0 rfl dX12_outBy_77 ?_
                  refine lv_bipush (v := 12) hC.x hC.b dX12_outBy_80 rfl ?_
                  refine lv_iload hC.x hC.b dX12_outBy_82 (lv_at hl 3 rfl) ?_
                  refine lv_imul hC.x hC.b dX12_outBy_84 ?_
                  refine lv_iload hC.x hC.b dX12_outBy_85 (lv_at hl 4 rfl) ?_
                  refine lv_iadd hC.x hC.b dX12_outBy_87 ?_
                  refine r_iald hC hH (hL _ mM17) sM17 h dX12_outBy_88 (fun h => ?_)
                  obtain ⟨j16, ej16, h⟩ := jn_e h
                  have hj16 : ∀ (m19 : gMem) (H : Heap) (locs : List Loc) (ls : Array Slot), (j16 m19) = some (rv, memz) → gH D cy shM ad L (gA ad L) s.heap m19 H locs → lv_has ls 7 [(0, .ref (ad 0)), (1, .int p0), (3, .int p2), (5, .int x10), (6, .int x14)] → W p l e R s m args below meth c H locs 0 0 Q (F0 m 113 ls []) := by
                    intro m19 H locs ls h hH hl
                    have h := ap1 ej16 h
                    refine i_inc (lv' := fun x20 => [(6, .int x20), (0, .ref (ad 0)), (1, .int p0), (3, .int p2), (5, .int x10)]) hC dX12_outBy_113 hl (k := 4) rfl (by decide) (fun _ => rfl) (z := 1) rfl h (fun x20 ls h hl => ?_)
                    refine lv_goto (tgt := 69) hC.x hC.b dX12_outBy_116 (by decide) ?_
                    exact ih13 x20 m19 H locs ls (ap2 es13 h) hH (lv_sub hl [1, 2, 3, 4, 0] rfl)
                  clear ej16
                  refine b_if_ne (tgt := 95) hC dX12_outBy_89 (by decide) h (fun h => ?_) (fun h => ?_)
                  · refine lv_aload_n hC.x hC.b dX12_outBy_95 rfl (lv_at hl 0 rfl) ?_
                    refine lv_iload hC.x hC.b dX12_outBy_96 (lv_at hl 3 rfl) ?_
                    refine lv_iload hC.x hC.b dX12_outBy_98 (lv_at hl 4 rfl) ?_
                    obtain ⟨m17, hf17, h⟩ := bd_e h
                    refine c_V0 (As := [.int x10, .int x14]) (rest := []) (o := 0) (q := (RX12, TX12, 74)) hC hX hE.2.1 hF hH (c_X12_stays (l := l) hk hL hE hf17) kw873 kw874 kw875 kw5 kw876 a_X12_stays.1 a_X12_stays.2 (hL _ mM0) sM0 rfl rfl hl.1 (rmk hR (by decide) (by decide)) (Nat.le_of_ble_eq_true rfl) dX12_outBy_100 (fun H locs hH => ?_)
                    refine lv_aload_n hC.x hC.b dX12_outBy_103 rfl (lv_at hl 0 rfl) ?_
                    refine lv_iload_n hC.x hC.b dX12_outBy_104 rfl (lv_at hl 1 rfl) ?_
                    refine lv_iload hC.x hC.b dX12_outBy_105 (lv_at hl 3 rfl) ?_
                    refine lv_iload hC.x hC.b dX12_outBy_107 (lv_at hl 4 rfl) ?_
                    refine lv_iload_n hC.x hC.b dX12_outBy_109 rfl (lv_at hl 2 rfl) ?_
                    obtain ⟨m18, hf18, h⟩ := bd_e h
                    refine c_V0 (As := [.int p0, .int x10, .int x14, .int p2]) (rest := []) (o := 0) (q := (RX12, TX12, 74)) hC hX hE.2.1 hF hH (c_X12_treads (l := l) hk hL hE hf18) kw877 kw878 kw879 kw5 kw880 a_X12_treads.1 a_X12_treads.2 (hL _ mM0) sM0 rfl rfl hl.1 (rmk hR (by decide) (by decide)) (Nat.le_of_ble_eq_true rfl) dX12_outBy_110 (fun H locs hH => ?_)
                    exact hj16 m18 H locs ls h hH (lv_sub hl [0, 1, 2, 3, 4] rfl)
                  · refine lv_goto (tgt := 113) hC.x hC.b dX12_outBy_92 (by decide) ?_
                    exact hj16 m15 H locs ls h hH (lv_sub hl [0, 1, 2, 3, 4] rfl)
            exact hl13 _ (0 : Int32) m11 H locs ls h hH (lv_sub hl [1, 2, 3, 4, 0] rfl)
          · refine lv_iload hC.x hC.b dX12_outBy_63 (lv_at hl 3 rfl) ?_
            rw [hQ]
            exact e_i hC hr hH h dX12_outBy_65
    exact hl9 _ (0 : Int32) m8 H locs ls h hH (lv_sub hl [1, 2, 4, 0] rfl)
  clear ej1
  have hl2 : ∀ (n : Nat) (x3 : Int32) (m4 : gMem) (H : Heap) (locs : List Loc) (ls : Array Slot), lq2 (s_X12_outBy_3 j1) n x3 m4 = some (rv, memz) → gH D cy shM ad L (gA ad L) s.heap m4 H locs → lv_has ls 7 [(0, .ref (ad 0)), (1, .int p0), (2, .int p1), (3, .int p2), (4, .int p3), (5, .int x3)] → W p l e R s m args below meth c H locs 0 0 Q (F0 m 3 ls []) := by
    intro n
    induction n with
    | zero => intro x3 m4 H locs ls h _ _; exact lq2_0 h
    | succ n ih2 =>
      intro x3 m4 H locs ls h hH hl
      obtain ⟨self2, es2, h⟩ := lq2_s h
      refine lv_iload hC.x hC.b dX12_outBy_3 (lv_at hl 5 rfl) ?_
      refine lv_sipush (v := 396) hC.x hC.b dX12_outBy_5 rfl ?_
      refine b_ic_ge (tgt := 25) hC dX12_outBy_8 (by decide) h (fun h => ?_) (fun h => ?_)
      · exact hj1 m4 H locs ls h hH (lv_sub hl [0, 1, 2, 3, 4] rfl)
      · refine lv_aload_n hC.x hC.b dX12_outBy_11 rfl (lv_at hl 0 rfl) ?_
        refine r_getc (z := 17) hC hH fl_X12_118_12 (hL _ mM0) sM0 rfl dX12_outBy_12 ?_
        refine lv_iload hC.x hC.b dX12_outBy_15 (lv_at hl 5 rfl) ?_
        refine lv_iconst (v := 0) hC.x hC.b dX12_outBy_17 rfl ?_
        refine r_iast hC hF hH (hL _ mM17) sM17 h dX12_outBy_18 (fun m5 H locs h hH => ?_)
        refine i_inc (lv' := fun x6 => [(5, .int x6), (0, .ref (ad 0)), (1, .int p0), (2, .int p1), (3, .int p2), (4, .int p3)]) hC dX12_outBy_19 hl (k := 5) rfl (by decide) (fun _ => rfl) (z := 1) rfl h (fun x6 ls h hl => ?_)
        refine lv_goto (tgt := 3) hC.x hC.b dX12_outBy_22 (by decide) ?_
        exact ih2 x6 m5 H locs ls (ap2 es2 h) hH (lv_sub hl [1, 2, 3, 4, 5, 0] rfl)
  exact hl2 _ (0 : Int32) mem H locs ls h hH (lv_sub hl [1, 2, 3, 4, 5, 0] rfl)
theorem a_X12_layQuiet : noMH yX12_layQuiet.cls ∧ arity yX12_layQuiet.desc 1 := by decide +kernel
def f_X12_quiet (mem : gMem) (p0 : Int32) (p1 : Int32) : Option (Int32 × gMem) := bd (f_X12_isWalker mem p0) fun (x1 : Int32) => if x1 = 0 then (some ((-1 : Int32), mem)) else bd (f_X12_in p1 (0 : Int32) (1 : Int32)) fun (x2 : Int32) => if x2 = 0 then (some ((-1 : Int32), mem)) else bd (f_X12_layQuiet mem p0) fun (m3 : gMem) => if p1 = 0 then (some ((gI m3 0 39), m3)) else some ((gI m3 0 40), m3)
set_option maxRecDepth 100000 in
set_option maxHeartbeats 4000000 in
theorem c_X12_quiet {l : Launch} {E : State → Prop} {D : va_G} {cy : Nat → ClassId} {ad : Nat → Nat} {L : List Nat} {mem : gMem} {p0 : Int32} {p1 : Int32} {rv : Int32} {memz : gMem} (hk : gOk ad L) (hL : ∀ o ∈ LM0, o ∈ L) (hE : gEok ad L E)  (h : f_X12_quiet mem p0 p1 = some (rv, memz)) : gMet l yX12_quiet cX12_quiet 3 (some .int) 6 150 E D cy shM ad L [.ref (ad 0), .int p0, .int p1] mem memz (some (.int rv)) := by
  refine g_go (own := RX12) (by decide +kernel) rfl hE (Nat.le_of_ble_eq_true rfl) ?_
  intro p e s m args below meth c R Q hargs hR hQ hEs hC hr hX H locs ls hH hl
  have hF := gF_of hk
  have hl : lv_has ls 3 [(0, .ref (ad 0)), (1, .int p0), (2, .int p1)] := hl
  refine lv_aload_n hC.x hC.b dX12_quiet_0 rfl (lv_at hl 0 rfl) ?_
  refine lv_iload_n hC.x hC.b dX12_quiet_1 rfl (lv_at hl 1 rfl) ?_
  obtain ⟨x1, hf1, h⟩ := bd_e h
  refine c_V1 (As := [.int p0]) (rest := []) (o := 0) (q := (RX12, TX12, 74)) hC hX hE.2.1 hF hH (c_X12_isWalker (l := l) hk hL hE hf1) kw376 kw377 kw378 kw5 kw379 a_X12_isWalker.1 a_X12_isWalker.2 (hL _ mM0) sM0 rfl rfl hl.1 (rmk hR (by decide) (by decide)) (Nat.le_of_ble_eq_true rfl) dX12_quiet_2 (fun H locs hH => ?_)
  refine b_if_eq (tgt := 18) hC dX12_quiet_5 (by decide) h (fun h => ?_) (fun h => ?_)
  · refine lv_iconst (v := -1) hC.x hC.b dX12_quiet_18 rfl ?_
    rw [hQ]
    exact e_i hC hr hH h dX12_quiet_19
  · refine lv_aload_n hC.x hC.b dX12_quiet_8 rfl (lv_at hl 0 rfl) ?_
    refine lv_iload_n hC.x hC.b dX12_quiet_9 rfl (lv_at hl 2 rfl) ?_
    refine lv_iconst (v := 0) hC.x hC.b dX12_quiet_10 rfl ?_
    refine lv_iconst (v := 1) hC.x hC.b dX12_quiet_11 rfl ?_
    obtain ⟨x2, hf2, h⟩ := bd_e h
    refine c_V1 (As := [.int p1, .int (0 : Int32), .int (1 : Int32)]) (rest := []) (o := 0) (q := (RX12, TX12, 74)) hC hX hE.2.1 hF hH (c_X12_in (l := l) hk hL hE hf2) kw167 kw168 kw169 kw5 kw170 a_X12_in.1 a_X12_in.2 (hL _ mM0) sM0 rfl rfl hl.1 (rmk hR (by decide) (by decide)) (Nat.le_of_ble_eq_true rfl) dX12_quiet_12 (fun H locs hH => ?_)
    refine b_if_ne (tgt := 20) hC dX12_quiet_15 (by decide) h (fun h => ?_) (fun h => ?_)
    · refine lv_aload_n hC.x hC.b dX12_quiet_20 rfl (lv_at hl 0 rfl) ?_
      refine lv_iload_n hC.x hC.b dX12_quiet_21 rfl (lv_at hl 1 rfl) ?_
      obtain ⟨m3, hf3, h⟩ := bd_e h
      refine c_V0 (As := [.int p0]) (rest := []) (o := 0) (q := (RX12, TX12, 74)) hC hX hE.2.1 hF hH (c_X12_layQuiet (l := l) hk hL hE hf3) kw906 kw907 kw908 kw5 kw909 a_X12_layQuiet.1 a_X12_layQuiet.2 (hL _ mM0) sM0 rfl rfl hl.1 (rmk hR (by decide) (by decide)) (Nat.le_of_ble_eq_true rfl) dX12_quiet_22 (fun H locs hH => ?_)
      refine lv_iload_n hC.x hC.b dX12_quiet_25 rfl (lv_at hl 2 rfl) ?_
      refine b_if_ne (tgt := 36) hC dX12_quiet_26 (by decide) h (fun h => ?_) (fun h => ?_)
      · refine lv_aload_n hC.x hC.b dX12_quiet_36 rfl (lv_at hl 0 rfl) ?_
        refine r_geti hC hH fl_X12_133_12 (hL _ mM0) sM0 rfl dX12_quiet_37 ?_
        rw [hQ]
        exact e_i hC hr hH h dX12_quiet_40
      · refine lv_aload_n hC.x hC.b dX12_quiet_29 rfl (lv_at hl 0 rfl) ?_
        refine r_geti hC hH fl_X12_130_12 (hL _ mM0) sM0 rfl dX12_quiet_30 ?_
        refine lv_goto (tgt := 40) hC.x hC.b dX12_quiet_33 (by decide) ?_
        rw [hQ]
        exact e_i hC hr hH h dX12_quiet_40
    · refine lv_iconst (v := -1) hC.x hC.b dX12_quiet_18 rfl ?_
      rw [hQ]
      exact e_i hC hr hH h dX12_quiet_19
theorem a_X12_goesAct : noMH yX12_goesAct.cls ∧ arity yX12_goesAct.desc 2 := by decide +kernel
def f_X12_walkerTells (mem : gMem) (p0 : Int32) (p1 : Int32) : Option (Int32 × gMem) := bd (f_X12_body mem (12 : Int32)) fun (m1 : gMem) => bd2 (f_X12_goesAct m1 p0 p1) fun (x3 : Int32) (m2 : gMem) => some ((x3 * (2 : Int32)), m2)
set_option maxRecDepth 100000 in
set_option maxHeartbeats 4000000 in
theorem c_X12_walkerTells {l : Launch} {E : State → Prop} {D : va_G} {cy : Nat → ClassId} {ad : Nat → Nat} {L : List Nat} {mem : gMem} {p0 : Int32} {p1 : Int32} {rv : Int32} {memz : gMem} (hk : gOk ad L) (hL : ∀ o ∈ LM0, o ∈ L) (hE : gEok ad L E)  (h : f_X12_walkerTells mem p0 p1 = some (rv, memz)) : gMet l yX12_walkerTells cX12_walkerTells 3 (some .int) 6 132 E D cy shM ad L [.ref (ad 0), .int p0, .int p1] mem memz (some (.int rv)) := by
  refine g_go (own := RX12) (by decide +kernel) rfl hE (Nat.le_of_ble_eq_true rfl) ?_
  intro p e s m args below meth c R Q hargs hR hQ hEs hC hr hX H locs ls hH hl
  have hF := gF_of hk
  have hl : lv_has ls 3 [(0, .ref (ad 0)), (1, .int p0), (2, .int p1)] := hl
  refine lv_aload_n hC.x hC.b dX12_walkerTells_0 rfl (lv_at hl 0 rfl) ?_
  refine lv_bipush (v := 12) hC.x hC.b dX12_walkerTells_1 rfl ?_
  obtain ⟨m1, hf1, h⟩ := bd_e h
  refine c_V0 (As := [.int (12 : Int32)]) (rest := []) (o := 0) (q := (RX12, TX12, 74)) hC hX hE.2.1 hF hH (c_X12_body (l := l) hk hL hE hf1) kw1242 kw1243 kw1244 kw5 kw1245 a_X12_body.1 a_X12_body.2 (hL _ mM0) sM0 rfl rfl hl.1 (rmk hR (by decide) (by decide)) (Nat.le_of_ble_eq_true rfl) dX12_walkerTells_3 (fun H locs hH => ?_)
  refine lv_aload_n hC.x hC.b dX12_walkerTells_6 rfl (lv_at hl 0 rfl) ?_
  refine lv_iload_n hC.x hC.b dX12_walkerTells_7 rfl (lv_at hl 1 rfl) ?_
  refine lv_iload_n hC.x hC.b dX12_walkerTells_8 rfl (lv_at hl 2 rfl) ?_
  obtain ⟨x3, m2, hf3, h⟩ := bd2_e h
  refine c_V1 (As := [.int p0, .int p1]) (rest := []) (o := 0) (q := (RX12, TX12, 74)) hC hX hE.2.1 hF hH (c_X12_goesAct (l := l) hk hL hE hf3) kw1250 kw1251 kw1252 kw5 kw1253 a_X12_goesAct.1 a_X12_goesAct.2 (hL _ mM0) sM0 rfl rfl hl.1 (rmk hR (by decide) (by decide)) (Nat.le_of_ble_eq_true rfl) dX12_walkerTells_9 (fun H locs hH => ?_)
  refine lv_iconst (v := 2) hC.x hC.b dX12_walkerTells_12 rfl ?_
  refine lv_imul hC.x hC.b dX12_walkerTells_13 ?_
  rw [hQ]
  exact e_i hC hr hH h dX12_walkerTells_14
theorem a_X12_goesText : noMH yX12_goesText.cls ∧ arity yX12_goesText.desc 1 := by decide +kernel
theorem pl_X12_45_12 : gPl RX12 45 12 11 "I" := ⟨RX12, TX12, 74, tyX12, "OnTiptoeModel", rfl, inW12, tyX12_ok, nmX12, by decide, kw87, Or.inl rfl, rfl, rfl⟩
def f_X12_night (mem : gMem) : Option (Int32 × gMem) := if (gI mem 0 11) = (6 : Int32) then (some ((-4 : Int32), mem)) else bd2 (f_X12_goesText mem (gI mem 0 11)) fun (x2 : Int32) (m1 : gMem) => lt1 (gsI m1 0 13 (0 : Int32)) fun (m3 : gMem) => if x2 = 0 then (some (((-10 : Int32) - (gI m3 0 14)), m3)) else lt1 (gsI m3 0 12 (gI m3 0 11)) fun (m4 : gMem) => lt1 (gsI m4 0 11 ((gI m4 0 11) + (1 : Int32))) fun (m5 : gMem) => some ((gI m5 0 12), m5)
set_option maxRecDepth 100000 in
set_option maxHeartbeats 4000000 in
theorem c_X12_night {l : Launch} {E : State → Prop} {D : va_G} {cy : Nat → ClassId} {ad : Nat → Nat} {L : List Nat} {mem : gMem} {rv : Int32} {memz : gMem} (hk : gOk ad L) (hL : ∀ o ∈ LM0, o ∈ L) (hE : gEok ad L E)  (h : f_X12_night mem = some (rv, memz)) : gMet l yX12_night cX12_night 2 (some .int) 7 152 E D cy shM ad L [.ref (ad 0)] mem memz (some (.int rv)) := by
  refine g_go (own := RX12) (by decide +kernel) rfl hE (Nat.le_of_ble_eq_true rfl) ?_
  intro p e s m args below meth c R Q hargs hR hQ hEs hC hr hX H locs ls hH hl
  have hF := gF_of hk
  have hl : lv_has ls 2 [(0, .ref (ad 0))] := hl
  refine lv_aload_n hC.x hC.b dX12_night_0 rfl (lv_at hl 0 rfl) ?_
  refine r_geti hC hH fl_X12_45_12 (hL _ mM0) sM0 rfl dX12_night_1 ?_
  refine lv_bipush (v := 6) hC.x hC.b dX12_night_4 rfl ?_
  refine b_ic_ne (tgt := 12) hC dX12_night_6 (by decide) h (fun h => ?_) (fun h => ?_)
  · refine lv_aload_n hC.x hC.b dX12_night_12 rfl (lv_at hl 0 rfl) ?_
    refine lv_aload_n hC.x hC.b dX12_night_13 rfl (lv_at hl 0 rfl) ?_
    refine r_geti hC hH fl_X12_45_12 (hL _ mM0) sM0 rfl dX12_night_14 ?_
    obtain ⟨x2, m1, hf2, h⟩ := bd2_e h
    refine c_V1 (As := [.int (gI mem 0 11)]) (rest := []) (o := 0) (q := (RX12, TX12, 74)) hC hX hE.2.1 hF hH (c_X12_goesText (l := l) hk hL hE hf2) kw633 kw634 kw635 kw5 kw636 a_X12_goesText.1 a_X12_goesText.2 (hL _ mM0) sM0 rfl rfl hl.1 (rmk hR (by decide) (by decide)) (Nat.le_of_ble_eq_true rfl) dX12_night_17 (fun H locs hH => ?_)
    refine lv_istore_n (lv' := [(1, .int x2), (0, .ref (ad 0))]) hC.x hC.b dX12_night_20 rfl hl (by decide) rfl (fun ls hl => ?_)
    refine lv_aload_n hC.x hC.b dX12_night_21 rfl (lv_at hl 1 rfl) ?_
    refine lv_iconst (v := 0) hC.x hC.b dX12_night_22 rfl ?_
    refine r_puti hC hF hH pl_X12_51_12 (hL _ mM0) sM0 rfl h dX12_night_23 (fun m3 H locs h hH => ?_)
    refine lv_iload_n hC.x hC.b dX12_night_26 rfl (lv_at hl 0 rfl) ?_
    refine b_if_ne (tgt := 38) hC dX12_night_27 (by decide) h (fun h => ?_) (fun h => ?_)
    · refine lv_aload_n hC.x hC.b dX12_night_38 rfl (lv_at hl 1 rfl) ?_
      refine lv_aload_n hC.x hC.b dX12_night_39 rfl (lv_at hl 1 rfl) ?_
      refine r_geti hC hH fl_X12_45_12 (hL _ mM0) sM0 rfl dX12_night_40 ?_
      refine r_puti hC hF hH pl_X12_48_12 (hL _ mM0) sM0 rfl h dX12_night_43 (fun m4 H locs h hH => ?_)
      refine lv_aload_n hC.x hC.b dX12_night_46 rfl (lv_at hl 1 rfl) ?_
      refine lv_dup hC.x hC.b dX12_night_47 rfl ?_
      refine r_geti hC hH fl_X12_45_12 (hL _ mM0) sM0 rfl dX12_night_48 ?_
      refine lv_iconst (v := 1) hC.x hC.b dX12_night_51 rfl ?_
      refine lv_iadd hC.x hC.b dX12_night_52 ?_
      refine r_puti hC hF hH pl_X12_45_12 (hL _ mM0) sM0 rfl h dX12_night_53 (fun m5 H locs h hH => ?_)
      refine lv_aload_n hC.x hC.b dX12_night_56 rfl (lv_at hl 1 rfl) ?_
      refine r_geti hC hH fl_X12_48_12 (hL _ mM0) sM0 rfl dX12_night_57 ?_
      rw [hQ]
      exact e_i hC hr hH h dX12_night_60
    · refine lv_bipush (v := -10) hC.x hC.b dX12_night_30 rfl ?_
      refine lv_aload_n hC.x hC.b dX12_night_32 rfl (lv_at hl 1 rfl) ?_
      refine r_geti hC hH fl_X12_54_12 (hL _ mM0) sM0 rfl dX12_night_33 ?_
      refine lv_isub hC.x hC.b dX12_night_36 ?_
      rw [hQ]
      exact e_i hC hr hH h dX12_night_37
  · refine lv_bipush (v := -4) hC.x hC.b dX12_night_9 rfl ?_
    rw [hQ]
    exact e_i hC hr hH h dX12_night_11
theorem a_X12_goesBy : noMH yX12_goesBy.cls ∧ arity yX12_goesBy.desc 3 := by decide +kernel
def f_X12_goes (mem : gMem) (p0 : Int32) (p1 : Int32) : Option (Int32 × gMem) := bd (f_X12_isWalker mem p0) fun (x1 : Int32) => if x1 = 0 then (some ((-1 : Int32), mem)) else bd (f_X12_in p1 (0 : Int32) (3 : Int32)) fun (x2 : Int32) => if x2 = 0 then (some ((-1 : Int32), mem)) else bd2 (f_X12_goesBy mem p0 (gI mem 0 1) (gI mem 0 2)) fun (x4 : Int32) (m3 : gMem) => if p1 = 0 then (some (x4, m3)) else if p1 = (1 : Int32) then (some ((gI m3 0 32), m3)) else if p1 = (2 : Int32) then (some ((gI m3 0 33), m3)) else some ((gI m3 0 34), m3)
set_option maxRecDepth 100000 in
set_option maxHeartbeats 4000000 in
theorem c_X12_goes {l : Launch} {E : State → Prop} {D : va_G} {cy : Nat → ClassId} {ad : Nat → Nat} {L : List Nat} {mem : gMem} {p0 : Int32} {p1 : Int32} {rv : Int32} {memz : gMem} (hk : gOk ad L) (hL : ∀ o ∈ LM0, o ∈ L) (hE : gEok ad L E)  (h : f_X12_goes mem p0 p1 = some (rv, memz)) : gMet l yX12_goes cX12_goes 4 (some .int) 7 177 E D cy shM ad L [.ref (ad 0), .int p0, .int p1] mem memz (some (.int rv)) := by
  refine g_go (own := RX12) (by decide +kernel) rfl hE (Nat.le_of_ble_eq_true rfl) ?_
  intro p e s m args below meth c R Q hargs hR hQ hEs hC hr hX H locs ls hH hl
  have hF := gF_of hk
  have hl : lv_has ls 4 [(0, .ref (ad 0)), (1, .int p0), (2, .int p1)] := hl
  refine lv_aload_n hC.x hC.b dX12_goes_0 rfl (lv_at hl 0 rfl) ?_
  refine lv_iload_n hC.x hC.b dX12_goes_1 rfl (lv_at hl 1 rfl) ?_
  obtain ⟨x1, hf1, h⟩ := bd_e h
  refine c_V1 (As := [.int p0]) (rest := []) (o := 0) (q := (RX12, TX12, 74)) hC hX hE.2.1 hF hH (c_X12_isWalker (l := l) hk hL hE hf1) kw376 kw377 kw378 kw5 kw379 a_X12_isWalker.1 a_X12_isWalker.2 (hL _ mM0) sM0 rfl rfl hl.1 (rmk hR (by decide) (by decide)) (Nat.le_of_ble_eq_true rfl) dX12_goes_2 (fun H locs hH => ?_)
  refine b_if_eq (tgt := 18) hC dX12_goes_5 (by decide) h (fun h => ?_) (fun h => ?_)
  · refine lv_iconst (v := -1) hC.x hC.b dX12_goes_18 rfl ?_
    rw [hQ]
    exact e_i hC hr hH h dX12_goes_19
  · refine lv_aload_n hC.x hC.b dX12_goes_8 rfl (lv_at hl 0 rfl) ?_
    refine lv_iload_n hC.x hC.b dX12_goes_9 rfl (lv_at hl 2 rfl) ?_
    refine lv_iconst (v := 0) hC.x hC.b dX12_goes_10 rfl ?_
    refine lv_iconst (v := 3) hC.x hC.b dX12_goes_11 rfl ?_
    obtain ⟨x2, hf2, h⟩ := bd_e h
    refine c_V1 (As := [.int p1, .int (0 : Int32), .int (3 : Int32)]) (rest := []) (o := 0) (q := (RX12, TX12, 74)) hC hX hE.2.1 hF hH (c_X12_in (l := l) hk hL hE hf2) kw167 kw168 kw169 kw5 kw170 a_X12_in.1 a_X12_in.2 (hL _ mM0) sM0 rfl rfl hl.1 (rmk hR (by decide) (by decide)) (Nat.le_of_ble_eq_true rfl) dX12_goes_12 (fun H locs hH => ?_)
    refine b_if_ne (tgt := 20) hC dX12_goes_15 (by decide) h (fun h => ?_) (fun h => ?_)
    · refine lv_aload_n hC.x hC.b dX12_goes_20 rfl (lv_at hl 0 rfl) ?_
      refine lv_iload_n hC.x hC.b dX12_goes_21 rfl (lv_at hl 1 rfl) ?_
      refine lv_aload_n hC.x hC.b dX12_goes_22 rfl (lv_at hl 0 rfl) ?_
      refine r_geti hC hH fl_X12_13_12 (hL _ mM0) sM0 rfl dX12_goes_23 ?_
      refine lv_aload_n hC.x hC.b dX12_goes_26 rfl (lv_at hl 0 rfl) ?_
      refine r_geti hC hH fl_X12_16_12 (hL _ mM0) sM0 rfl dX12_goes_27 ?_
      obtain ⟨x4, m3, hf4, h⟩ := bd2_e h
      refine c_V1 (As := [.int p0, .int (gI mem 0 1), .int (gI mem 0 2)]) (rest := []) (o := 0) (q := (RX12, TX12, 74)) hC hX hE.2.1 hF hH (c_X12_goesBy (l := l) hk hL hE hf4) kw837 kw838 kw839 kw5 kw840 a_X12_goesBy.1 a_X12_goesBy.2 (hL _ mM0) sM0 rfl rfl hl.1 (rmk hR (by decide) (by decide)) (Nat.le_of_ble_eq_true rfl) dX12_goes_30 (fun H locs hH => ?_)
      refine lv_istore_n (lv' := [(3, .int x4), (0, .ref (ad 0)), (1, .int p0), (2, .int p1)]) hC.x hC.b dX12_goes_33 rfl hl (by decide) rfl (fun ls hl => ?_)
      refine lv_iload_n hC.x hC.b dX12_goes_34 rfl (lv_at hl 3 rfl) ?_
      refine b_if_ne (tgt := 42) hC dX12_goes_35 (by decide) h (fun h => ?_) (fun h => ?_)
      · refine lv_iload_n hC.x hC.b dX12_goes_42 rfl (lv_at hl 3 rfl) ?_
        refine lv_iconst (v := 1) hC.x hC.b dX12_goes_43 rfl ?_
        refine b_ic_ne (tgt := 54) hC dX12_goes_44 (by decide) h (fun h => ?_) (fun h => ?_)
        · refine lv_iload_n hC.x hC.b dX12_goes_54 rfl (lv_at hl 3 rfl) ?_
          refine lv_iconst (v := 2) hC.x hC.b dX12_goes_55 rfl ?_
          refine b_ic_ne (tgt := 66) hC dX12_goes_56 (by decide) h (fun h => ?_) (fun h => ?_)
          · refine lv_aload_n hC.x hC.b dX12_goes_66 rfl (lv_at hl 1 rfl) ?_
            refine r_geti hC hH fl_X12_115_12 (hL _ mM0) sM0 rfl dX12_goes_67 ?_
            rw [hQ]
            exact e_i hC hr hH h dX12_goes_70
          · refine lv_aload_n hC.x hC.b dX12_goes_59 rfl (lv_at hl 1 rfl) ?_
            refine r_geti hC hH fl_X12_112_12 (hL _ mM0) sM0 rfl dX12_goes_60 ?_
            refine lv_goto (tgt := 70) hC.x hC.b dX12_goes_63 (by decide) ?_
            rw [hQ]
            exact e_i hC hr hH h dX12_goes_70
        · refine lv_aload_n hC.x hC.b dX12_goes_47 rfl (lv_at hl 1 rfl) ?_
          refine r_geti hC hH fl_X12_109_12 (hL _ mM0) sM0 rfl dX12_goes_48 ?_
          refine lv_goto (tgt := 70) hC.x hC.b dX12_goes_51 (by decide) ?_
          rw [hQ]
          exact e_i hC hr hH h dX12_goes_70
      · refine lv_iload_n hC.x hC.b dX12_goes_38 rfl (lv_at hl 0 rfl) ?_
        refine lv_goto (tgt := 70) hC.x hC.b dX12_goes_39 (by decide) ?_
        rw [hQ]
        exact e_i hC hr hH h dX12_goes_70
    · refine lv_iconst (v := -1) hC.x hC.b dX12_goes_18 rfl ?_
      rw [hQ]
      exact e_i hC hr hH h dX12_goes_19
theorem a_X12_outBy : noMH yX12_outBy.cls ∧ arity yX12_outBy.desc 4 := by decide +kernel
def f_X12_outNow (mem : gMem) (p0 : Int32) : Option (Int32 × gMem) := if okI p0 4 then bd2 (f_X12_outBy mem p0 (gI mem 4 (ix p0)) (gI mem 0 1) (gI mem 0 2)) fun (x2 : Int32) (m1 : gMem) => some (x2, m1) else none
set_option maxRecDepth 100000 in
set_option maxHeartbeats 4000000 in
theorem c_X12_outNow {l : Launch} {E : State → Prop} {D : va_G} {cy : Nat → ClassId} {ad : Nat → Nat} {L : List Nat} {mem : gMem} {p0 : Int32} {rv : Int32} {memz : gMem} (hk : gOk ad L) (hL : ∀ o ∈ LM0, o ∈ L) (hE : gEok ad L E)  (h : f_X12_outNow mem p0 = some (rv, memz)) : gMet l yX12_outNow cX12_outNow 2 (some .int) 7 183 E D cy shM ad L [.ref (ad 0), .int p0] mem memz (some (.int rv)) := by
  refine g_go (own := RX12) (by decide +kernel) rfl hE (Nat.le_of_ble_eq_true rfl) ?_
  intro p e s m args below meth c R Q hargs hR hQ hEs hC hr hX H locs ls hH hl
  have hF := gF_of hk
  have hl : lv_has ls 2 [(0, .ref (ad 0)), (1, .int p0)] := hl
  refine lv_aload_n hC.x hC.b dX12_outNow_0 rfl (lv_at hl 0 rfl) ?_
  refine lv_iload_n hC.x hC.b dX12_outNow_1 rfl (lv_at hl 1 rfl) ?_
  refine lv_aload_n hC.x hC.b dX12_outNow_2 rfl (lv_at hl 0 rfl) ?_
  refine r_getc (z := 4) hC hH fl_X12_39_12 (hL _ mM0) sM0 rfl dX12_outNow_3 ?_
  refine lv_iload_n hC.x hC.b dX12_outNow_6 rfl (lv_at hl 1 rfl) ?_
  refine r_iald hC hH (hL _ mM4) sM4 h dX12_outNow_7 (fun h => ?_)
  refine lv_aload_n hC.x hC.b dX12_outNow_8 rfl (lv_at hl 0 rfl) ?_
  refine r_geti hC hH fl_X12_13_12 (hL _ mM0) sM0 rfl dX12_outNow_9 ?_
  refine lv_aload_n hC.x hC.b dX12_outNow_12 rfl (lv_at hl 0 rfl) ?_
  refine r_geti hC hH fl_X12_16_12 (hL _ mM0) sM0 rfl dX12_outNow_13 ?_
  obtain ⟨x2, m1, hf2, h⟩ := bd2_e h
  refine c_V1 (As := [.int p0, .int (gI mem 4 (ix p0)), .int (gI mem 0 1), .int (gI mem 0 2)]) (rest := []) (o := 0) (q := (RX12, TX12, 74)) hC hX hE.2.1 hF hH (c_X12_outBy (l := l) hk hL hE hf2) kw869 kw870 kw871 kw5 kw872 a_X12_outBy.1 a_X12_outBy.2 (hL _ mM0) sM0 rfl rfl hl.1 (rmk hR (by decide) (by decide)) (Nat.le_of_ble_eq_true rfl) dX12_outNow_16 (fun H locs hH => ?_)
  rw [hQ]
  exact e_i hC hr hH h dX12_outNow_19
def s_X12_set_30 (j3 : Int32 → Int32 → gMem → Option (Int32 × gMem)) (p0 : Int32) (self4 : Int32 → Int32 → Int32 → gMem → Option (Int32 × gMem)) (x5 : Int32) (x6 : Int32) (x7 : Int32) (m8 : gMem) : Option (Int32 × gMem) := if (21 : Int32) ≤ x7 then ((j3 x5 x6 m8)) else if okI p0 4 then jn ((fun (x10 : Int32) => bd2 (f_X12_outBy m8 p0 (gI m8 4 (ix p0)) ((gI m8 0 1) + x7) x10) fun (x12 : Int32) (m11 : gMem) => jn ((fun (x15 : Int32) (x16 : Int32) => lt1 (x7 + (1 : Int32)) fun (x17 : Int32) => (self4 x15 x16 x17 m11)) : Int32 → Int32 → Option (Int32 × gMem)) fun j13 => if x12 < 0 then ((j13 x5 x6)) else jn (((j13 x7 x12)) : Option (Int32 × gMem)) fun j14 => if x6 < 0 then (j14) else if x12 < x6 then (j14) else (j13 x5 x6)) : Int32 → Option (Int32 × gMem)) fun j9 => if x7 ≤ (gI m8 0 2) then ((j9 ((gI m8 0 2) - x7))) else (j9 (0 : Int32)) else none
def f_X12_set (mem : gMem) (p0 : Int32) (p1 : Int32) : Option (Int32 × gMem) := bd (f_X12_isWalker mem p0) fun (x1 : Int32) => if x1 = 0 then (some ((-1 : Int32), mem)) else bd (f_X12_in p1 (0 : Int32) (1 : Int32)) fun (x2 : Int32) => if x2 = 0 then (some ((-1 : Int32), mem)) else jn ((fun (x18 : Int32) (x19 : Int32) (m20 : gMem) => if p1 = 0 then (some (x18, m20)) else some (x19, m20)) : Int32 → Int32 → gMem → Option (Int32 × gMem)) fun j3 => lq4 (s_X12_set_30 j3 p0) 1000 (-5 : Int32) (-5 : Int32) (0 : Int32) mem
set_option maxRecDepth 100000 in
set_option maxHeartbeats 4000000 in
theorem c_X12_set {l : Launch} {E : State → Prop} {D : va_G} {cy : Nat → ClassId} {ad : Nat → Nat} {L : List Nat} {mem : gMem} {p0 : Int32} {p1 : Int32} {rv : Int32} {memz : gMem} (hk : gOk ad L) (hL : ∀ o ∈ LM0, o ∈ L) (hE : gEok ad L E)  (h : f_X12_set mem p0 p1 = some (rv, memz)) : gMet l yX12_set cX12_set 7 (some .int) 7 183 E D cy shM ad L [.ref (ad 0), .int p0, .int p1] mem memz (some (.int rv)) := by
  refine g_go (own := RX12) (by decide +kernel) rfl hE (Nat.le_of_ble_eq_true rfl) ?_
  intro p e s m args below meth c R Q hargs hR hQ hEs hC hr hX H locs ls hH hl
  have hF := gF_of hk
  have hl : lv_has ls 7 [(0, .ref (ad 0)), (1, .int p0), (2, .int p1)] := hl
  refine lv_aload_n hC.x hC.b dX12_set_0 rfl (lv_at hl 0 rfl) ?_
  refine lv_iload_n hC.x hC.b dX12_set_1 rfl (lv_at hl 1 rfl) ?_
  obtain ⟨x1, hf1, h⟩ := bd_e h
  refine c_V1 (As := [.int p0]) (rest := []) (o := 0) (q := (RX12, TX12, 74)) hC hX hE.2.1 hF hH (c_X12_isWalker (l := l) hk hL hE hf1) kw376 kw377 kw378 kw5 kw379 a_X12_isWalker.1 a_X12_isWalker.2 (hL _ mM0) sM0 rfl rfl hl.1 (rmk hR (by decide) (by decide)) (Nat.le_of_ble_eq_true rfl) dX12_set_2 (fun H locs hH => ?_)
  refine b_if_eq (tgt := 18) hC dX12_set_5 (by decide) h (fun h => ?_) (fun h => ?_)
  · refine lv_iconst (v := -1) hC.x hC.b dX12_set_18 rfl ?_
    rw [hQ]
    exact e_i hC hr hH h dX12_set_19
  · refine lv_aload_n hC.x hC.b dX12_set_8 rfl (lv_at hl 0 rfl) ?_
    refine lv_iload_n hC.x hC.b dX12_set_9 rfl (lv_at hl 2 rfl) ?_
    refine lv_iconst (v := 0) hC.x hC.b dX12_set_10 rfl ?_
    refine lv_iconst (v := 1) hC.x hC.b dX12_set_11 rfl ?_
    obtain ⟨x2, hf2, h⟩ := bd_e h
    refine c_V1 (As := [.int p1, .int (0 : Int32), .int (1 : Int32)]) (rest := []) (o := 0) (q := (RX12, TX12, 74)) hC hX hE.2.1 hF hH (c_X12_in (l := l) hk hL hE hf2) kw167 kw168 kw169 kw5 kw170 a_X12_in.1 a_X12_in.2 (hL _ mM0) sM0 rfl rfl hl.1 (rmk hR (by decide) (by decide)) (Nat.le_of_ble_eq_true rfl) dX12_set_12 (fun H locs hH => ?_)
    refine b_if_ne (tgt := 20) hC dX12_set_15 (by decide) h (fun h => ?_) (fun h => ?_)
    · refine lv_bipush (v := -5) hC.x hC.b dX12_set_20 rfl ?_
      refine lv_istore_n (lv' := [(3, .int (-5 : Int32)), (0, .ref (ad 0)), (1, .int p0), (2, .int p1)]) hC.x hC.b dX12_set_22 rfl hl (by decide) rfl (fun ls hl => ?_)
      refine lv_bipush (v := -5) hC.x hC.b dX12_set_23 rfl ?_
      refine lv_istore (lv' := [(4, .int (-5 : Int32)), (3, .int (-5 : Int32)), (0, .ref (ad 0)), (1, .int p0), (2, .int p1)]) hC.x hC.b dX12_set_25 hl (by decide) rfl (fun ls hl => ?_)
      refine lv_iconst (v := 0) hC.x hC.b dX12_set_27 rfl ?_
      refine lv_istore (lv' := [(5, .int (0 : Int32)), (4, .int (-5 : Int32)), (3, .int (-5 : Int32)), (0, .ref (ad 0)), (1, .int p0), (2, .int p1)]) hC.x hC.b dX12_set_28 hl (by decide) rfl (fun ls hl => ?_)
      obtain ⟨j3, ej3, h⟩ := jn_e h
      have hj3 : ∀ (x18 : Int32) (x19 : Int32) (m20 : gMem) (H : Heap) (locs : List Loc) (ls : Array Slot), (j3 x18 x19 m20) = some (rv, memz) → gH D cy shM ad L (gA ad L) s.heap m20 H locs → lv_has ls 7 [(2, .int p1), (3, .int x18), (4, .int x19)] → W p l e R s m args below meth c H locs 0 0 Q (F0 m 110 ls []) := by
        intro x18 x19 m20 H locs ls h hH hl
        have h := ap3 ej3 h
        refine lv_iload_n hC.x hC.b dX12_set_110 rfl (lv_at hl 0 rfl) ?_
        refine b_if_ne (tgt := 118) hC dX12_set_111 (by decide) h (fun h => ?_) (fun h => ?_)
        · refine lv_iload hC.x hC.b dX12_set_118 (lv_at hl 2 rfl) ?_
          rw [hQ]
          exact e_i hC hr hH h dX12_set_120
        · refine lv_iload_n hC.x hC.b dX12_set_114 rfl (lv_at hl 1 rfl) ?_
          refine lv_goto (tgt := 120) hC.x hC.b dX12_set_115 (by decide) ?_
          rw [hQ]
          exact e_i hC hr hH h dX12_set_120
      clear ej3
      have hl4 : ∀ (n : Nat) (x5 : Int32) (x6 : Int32) (x7 : Int32) (m8 : gMem) (H : Heap) (locs : List Loc) (ls : Array Slot), lq4 (s_X12_set_30 j3 p0) n x5 x6 x7 m8 = some (rv, memz) → gH D cy shM ad L (gA ad L) s.heap m8 H locs → lv_has ls 7 [(0, .ref (ad 0)), (1, .int p0), (2, .int p1), (3, .int x5), (4, .int x6), (5, .int x7)] → W p l e R s m args below meth c H locs 0 0 Q (F0 m 30 ls []) := by
        intro n
        induction n with
        | zero => intro x5 x6 x7 m8 H locs ls h _ _; exact lq4_0 h
        | succ n ih4 =>
          intro x5 x6 x7 m8 H locs ls h hH hl
          obtain ⟨self4, es4, h⟩ := lq4_s h
          refine lv_iload hC.x hC.b dX12_set_30 (lv_at hl 5 rfl) ?_
          refine lv_bipush (v := 21) hC.x hC.b dX12_set_32 rfl ?_
          refine b_ic_ge (tgt := 110) hC dX12_set_34 (by decide) h (fun h => ?_) (fun h => ?_)
          · exact hj3 x5 x6 m8 H locs ls h hH (lv_sub hl [2, 3, 4] rfl)
          · refine lv_aload_n hC.x hC.b dX12_set_37 rfl (lv_at hl 0 rfl) ?_
            refine lv_iload_n hC.x hC.b dX12_set_38 rfl (lv_at hl 1 rfl) ?_
            refine lv_aload_n hC.x hC.b dX12_set_39 rfl (lv_at hl 0 rfl) ?_
            refine r_getc (z := 4) hC hH fl_X12_39_12 (hL _ mM0) sM0 rfl dX12_set_40 ?_
            refine lv_iload_n hC.x hC.b dX12_set_43 rfl (lv_at hl 1 rfl) ?_
            refine r_iald hC hH (hL _ mM4) sM4 h dX12_set_44 (fun h => ?_)
            refine lv_aload_n hC.x hC.b dX12_set_45 rfl (lv_at hl 0 rfl) ?_
            refine r_geti hC hH fl_X12_13_12 (hL _ mM0) sM0 rfl dX12_set_46 ?_
            refine lv_iload hC.x hC.b dX12_set_49 (lv_at hl 5 rfl) ?_
            refine lv_iadd hC.x hC.b dX12_set_51 ?_
            refine lv_aload_n hC.x hC.b dX12_set_52 rfl (lv_at hl 0 rfl) ?_
            refine r_geti hC hH fl_X12_16_12 (hL _ mM0) sM0 rfl dX12_set_53 ?_
            refine lv_iload hC.x hC.b dX12_set_56 (lv_at hl 5 rfl) ?_
            obtain ⟨j9, ej9, h⟩ := jn_e h
            have hj9 : ∀ (x10 : Int32) (H : Heap) (locs : List Loc) (ls : Array Slot), (j9 x10) = some (rv, memz) → gH D cy shM ad L (gA ad L) s.heap m8 H locs → lv_has ls 7 [(0, .ref (ad 0)), (1, .int p0), (2, .int p1), (3, .int x5), (4, .int x6), (5, .int x7)] → W p l e R s m args below meth c H locs 0 0 Q (F0 m 72 ls [.int x10, .int ((gI m8 0 1) + x7), .int (gI m8 4 (ix p0)), .int p0, .ref (ad 0)]) := by
              intro x10 H locs ls h hH hl
              have h := ap1 ej9 h
              obtain ⟨x12, m11, hf12, h⟩ := bd2_e h
              refine c_V1 (As := [.int p0, .int (gI m8 4 (ix p0)), .int ((gI m8 0 1) + x7), .int x10]) (rest := []) (o := 0) (q := (RX12, TX12, 74)) hC hX hE.2.1 hF hH (c_X12_outBy (l := l) hk hL hE hf12) kw869 kw870 kw871 kw5 kw872 a_X12_outBy.1 a_X12_outBy.2 (hL _ mM0) sM0 rfl rfl hl.1 (rmk hR (by decide) (by decide)) (Nat.le_of_ble_eq_true rfl) dX12_set_72 (fun H locs hH => ?_)
              refine lv_istore (lv' := [(6, .int x12), (0, .ref (ad 0)), (1, .int p0), (2, .int p1), (3, .int x5), (4, .int x6), (5, .int x7)]) hC.x hC.b dX12_set_75 hl (by decide) rfl (fun ls hl => ?_)
              refine lv_iload hC.x hC.b dX12_set_77 (lv_at hl 0 rfl) ?_
              obtain ⟨j13, ej13, h⟩ := jn_e h
              have hj13 : ∀ (x15 : Int32) (x16 : Int32) (H : Heap) (locs : List Loc) (ls : Array Slot), (j13 x15 x16) = some (rv, memz) → gH D cy shM ad L (gA ad L) s.heap m11 H locs → lv_has ls 7 [(0, .ref (ad 0)), (1, .int p0), (2, .int p1), (3, .int x15), (4, .int x16), (5, .int x7)] → W p l e R s m args below meth c H locs 0 0 Q (F0 m 104 ls []) := by
                intro x15 x16 H locs ls h hH hl
                have h := ap2 ej13 h
                refine i_inc (lv' := fun x17 => [(5, .int x17), (0, .ref (ad 0)), (1, .int p0), (2, .int p1), (3, .int x15), (4, .int x16)]) hC dX12_set_104 hl (k := 5) rfl (by decide) (fun _ => rfl) (z := 1) rfl h (fun x17 ls h hl => ?_)
                refine lv_goto (tgt := 30) hC.x hC.b dX12_set_107 (by decide) ?_
                exact ih4 x15 x16 x17 m11 H locs ls (ap4 es4 h) hH (lv_sub hl [1, 2, 3, 4, 5, 0] rfl)
              clear ej13
              refine b_if_lt (tgt := 104) hC dX12_set_79 (by decide) h (fun h => ?_) (fun h => ?_)
              · exact hj13 x5 x6 H locs ls h hH (lv_sub hl [1, 2, 3, 4, 5, 6] rfl)
              · refine lv_iload hC.x hC.b dX12_set_82 (lv_at hl 5 rfl) ?_
                obtain ⟨j14, ej14, h⟩ := jn_e h
                have hj14 : ∀  (H : Heap) (locs : List Loc) (ls : Array Slot), j14 = some (rv, memz) → gH D cy shM ad L (gA ad L) s.heap m11 H locs → lv_has ls 7 [(0, .ref (ad 0)), (1, .int p0), (2, .int p1), (5, .int x7), (6, .int x12)] → W p l e R s m args below meth c H locs 0 0 Q (F0 m 97 ls []) := by
                  intro H locs ls h hH hl
                  have h := ap0 ej14 h
                  refine lv_iload hC.x hC.b dX12_set_97 (lv_at hl 3 rfl) ?_
                  refine lv_istore_n (lv' := [(3, .int x7), (0, .ref (ad 0)), (1, .int p0), (2, .int p1), (5, .int x7), (6, .int x12)]) hC.x hC.b dX12_set_99 rfl hl (by decide) rfl (fun ls hl => ?_)
                  refine lv_iload hC.x hC.b dX12_set_100 (lv_at hl 5 rfl) ?_
                  refine lv_istore (lv' := [(4, .int x12), (3, .int x7), (0, .ref (ad 0)), (1, .int p0), (2, .int p1), (5, .int x7), (6, .int x12)]) hC.x hC.b dX12_set_102 hl (by decide) rfl (fun ls hl => ?_)
                  exact hj13 x7 x12 H locs ls h hH (lv_sub hl [2, 3, 4, 1, 0, 5] rfl)
                clear ej14
                refine b_if_lt (tgt := 97) hC dX12_set_84 (by decide) h (fun h => ?_) (fun h => ?_)
                · exact hj14  H locs ls h hH (lv_sub hl [1, 2, 3, 6, 0] rfl)
                · refine lv_iload hC.x hC.b dX12_set_87 (lv_at hl 0 rfl) ?_
                  refine lv_iload hC.x hC.b dX12_set_89 (lv_at hl 5 rfl) ?_
                  refine b_ic_lt (tgt := 97) hC dX12_set_91 (by decide) h (fun h => ?_) (fun h => ?_)
                  · exact hj14  H locs ls h hH (lv_sub hl [1, 2, 3, 6, 0] rfl)
                  · refine lv_goto (tgt := 104) hC.x hC.b dX12_set_94 (by decide) ?_
                    exact hj13 x5 x6 H locs ls h hH (lv_sub hl [1, 2, 3, 4, 5, 6] rfl)
            clear ej9
            refine b_ic_ge (tgt := 65) hC dX12_set_58 (by decide) h (fun h => ?_) (fun h => ?_)
            · refine lv_aload_n hC.x hC.b dX12_set_65 rfl (lv_at hl 0 rfl) ?_
              refine r_geti hC hH fl_X12_16_12 (hL _ mM0) sM0 rfl dX12_set_66 ?_
              refine lv_iload hC.x hC.b dX12_set_69 (lv_at hl 5 rfl) ?_
              refine lv_isub hC.x hC.b dX12_set_71 ?_
              exact hj9 ((gI m8 0 2) - x7) H locs ls h hH (lv_sub hl [0, 1, 2, 3, 4, 5] rfl)
            · refine lv_iconst (v := 0) hC.x hC.b dX12_set_61 rfl ?_
              refine lv_goto (tgt := 72) hC.x hC.b dX12_set_62 (by decide) ?_
              exact hj9 (0 : Int32) H locs ls h hH (lv_sub hl [0, 1, 2, 3, 4, 5] rfl)
      exact hl4 _ (-5 : Int32) (-5 : Int32) (0 : Int32) mem H locs ls h hH (lv_sub hl [3, 4, 5, 2, 1, 0] rfl)
    · refine lv_iconst (v := -1) hC.x hC.b dX12_set_18 rfl ?_
      rw [hQ]
      exact e_i hC hr hH h dX12_set_19
def s_X12_from_14 (p0 : Int32) (self2 : Int32 → Int32 → gMem → Option (Int32 × gMem)) (x3 : Int32) (x4 : Int32) (m5 : gMem) : Option (Int32 × gMem) := if (12 : Int32) ≤ x4 then (some (x3, m5)) else bd2 (f_X12_outBy m5 p0 x4 (gI m5 0 1) (gI m5 0 2)) fun (x7 : Int32) (m6 : gMem) => jn ((fun (x9 : Int32) => lt1 (x3 ||| x9) fun (x10 : Int32) => lt1 (x4 + (1 : Int32)) fun (x11 : Int32) => (self2 x10 x11 m6)) : Int32 → Option (Int32 × gMem)) fun j8 => if 0 ≤ x7 then ((j8 ((1 : Int32) <<< (x4 &&& 31)))) else (j8 (0 : Int32))
def f_X12_from (mem : gMem) (p0 : Int32) : Option (Int32 × gMem) := bd (f_X12_isWalker mem p0) fun (x1 : Int32) => if x1 = 0 then (some ((-1 : Int32), mem)) else lq3 (s_X12_from_14 p0) 1000 (0 : Int32) (0 : Int32) mem
set_option maxRecDepth 100000 in
set_option maxHeartbeats 4000000 in
theorem c_X12_from {l : Launch} {E : State → Prop} {D : va_G} {cy : Nat → ClassId} {ad : Nat → Nat} {L : List Nat} {mem : gMem} {p0 : Int32} {rv : Int32} {memz : gMem} (hk : gOk ad L) (hL : ∀ o ∈ LM0, o ∈ L) (hE : gEok ad L E)  (h : f_X12_from mem p0 = some (rv, memz)) : gMet l yX12_from cX12_from 4 (some .int) 7 183 E D cy shM ad L [.ref (ad 0), .int p0] mem memz (some (.int rv)) := by
  refine g_go (own := RX12) (by decide +kernel) rfl hE (Nat.le_of_ble_eq_true rfl) ?_
  intro p e s m args below meth c R Q hargs hR hQ hEs hC hr hX H locs ls hH hl
  have hF := gF_of hk
  have hl : lv_has ls 4 [(0, .ref (ad 0)), (1, .int p0)] := hl
  refine lv_aload_n hC.x hC.b dX12_from_0 rfl (lv_at hl 0 rfl) ?_
  refine lv_iload_n hC.x hC.b dX12_from_1 rfl (lv_at hl 1 rfl) ?_
  obtain ⟨x1, hf1, h⟩ := bd_e h
  refine c_V1 (As := [.int p0]) (rest := []) (o := 0) (q := (RX12, TX12, 74)) hC hX hE.2.1 hF hH (c_X12_isWalker (l := l) hk hL hE hf1) kw376 kw377 kw378 kw5 kw379 a_X12_isWalker.1 a_X12_isWalker.2 (hL _ mM0) sM0 rfl rfl hl.1 (rmk hR (by decide) (by decide)) (Nat.le_of_ble_eq_true rfl) dX12_from_2 (fun H locs hH => ?_)
  refine b_if_ne (tgt := 10) hC dX12_from_5 (by decide) h (fun h => ?_) (fun h => ?_)
  · refine lv_iconst (v := 0) hC.x hC.b dX12_from_10 rfl ?_
    refine lv_istore_n (lv' := [(2, .int (0 : Int32)), (0, .ref (ad 0)), (1, .int p0)]) hC.x hC.b dX12_from_11 rfl hl (by decide) rfl (fun ls hl => ?_)
    refine lv_iconst (v := 0) hC.x hC.b dX12_from_12 rfl ?_
    refine lv_istore_n (lv' := [(3, .int (0 : Int32)), (2, .int (0 : Int32)), (0, .ref (ad 0)), (1, .int p0)]) hC.x hC.b dX12_from_13 rfl hl (by decide) rfl (fun ls hl => ?_)
    have hl2 : ∀ (n : Nat) (x3 : Int32) (x4 : Int32) (m5 : gMem) (H : Heap) (locs : List Loc) (ls : Array Slot), lq3 (s_X12_from_14 p0) n x3 x4 m5 = some (rv, memz) → gH D cy shM ad L (gA ad L) s.heap m5 H locs → lv_has ls 4 [(0, .ref (ad 0)), (1, .int p0), (2, .int x3), (3, .int x4)] → W p l e R s m args below meth c H locs 0 0 Q (F0 m 14 ls []) := by
      intro n
      induction n with
      | zero => intro x3 x4 m5 H locs ls h _ _; exact lq3_0 h
      | succ n ih2 =>
        intro x3 x4 m5 H locs ls h hH hl
        obtain ⟨self2, es2, h⟩ := lq3_s h
        refine lv_iload_n hC.x hC.b dX12_from_14 rfl (lv_at hl 3 rfl) ?_
        refine lv_bipush (v := 12) hC.x hC.b dX12_from_15 rfl ?_
        refine b_ic_ge (tgt := 53) hC dX12_from_17 (by decide) h (fun h => ?_) (fun h => ?_)
        · refine lv_iload_n hC.x hC.b dX12_from_53 rfl (lv_at hl 2 rfl) ?_
          rw [hQ]
          exact e_i hC hr hH h dX12_from_54
        · refine lv_iload_n hC.x hC.b dX12_from_20 rfl (lv_at hl 2 rfl) ?_
          refine lv_aload_n hC.x hC.b dX12_from_21 rfl (lv_at hl 0 rfl) ?_
          refine lv_iload_n hC.x hC.b dX12_from_22 rfl (lv_at hl 1 rfl) ?_
          refine lv_iload_n hC.x hC.b dX12_from_23 rfl (lv_at hl 3 rfl) ?_
          refine lv_aload_n hC.x hC.b dX12_from_24 rfl (lv_at hl 0 rfl) ?_
          refine r_geti hC hH fl_X12_13_12 (hL _ mM0) sM0 rfl dX12_from_25 ?_
          refine lv_aload_n hC.x hC.b dX12_from_28 rfl (lv_at hl 0 rfl) ?_
          refine r_geti hC hH fl_X12_16_12 (hL _ mM0) sM0 rfl dX12_from_29 ?_
          obtain ⟨x7, m6, hf7, h⟩ := bd2_e h
          refine c_V1 (As := [.int p0, .int x4, .int (gI m5 0 1), .int (gI m5 0 2)]) (rest := [.int x3]) (o := 0) (q := (RX12, TX12, 74)) hC hX hE.2.1 hF hH (c_X12_outBy (l := l) hk hL hE hf7) kw869 kw870 kw871 kw5 kw872 a_X12_outBy.1 a_X12_outBy.2 (hL _ mM0) sM0 rfl rfl hl.1 (rmk hR (by decide) (by decide)) (Nat.le_of_ble_eq_true rfl) dX12_from_32 (fun H locs hH => ?_)
          obtain ⟨j8, ej8, h⟩ := jn_e h
          have hj8 : ∀ (x9 : Int32) (H : Heap) (locs : List Loc) (ls : Array Slot), (j8 x9) = some (rv, memz) → gH D cy shM ad L (gA ad L) s.heap m6 H locs → lv_has ls 4 [(0, .ref (ad 0)), (1, .int p0), (3, .int x4)] → W p l e R s m args below meth c H locs 0 0 Q (F0 m 45 ls [.int x9, .int x3]) := by
            intro x9 H locs ls h hH hl
            have h := ap1 ej8 h
            refine lv_ior hC.x hC.b dX12_from_45 ?_
            refine n_i h (fun x10 h => ?_)
            refine lv_istore_n (lv' := [(2, .int x10), (0, .ref (ad 0)), (1, .int p0), (3, .int x4)]) hC.x hC.b dX12_from_46 rfl hl (by decide) rfl (fun ls hl => ?_)
            refine i_inc (lv' := fun x11 => [(3, .int x11), (2, .int x10), (0, .ref (ad 0)), (1, .int p0)]) hC dX12_from_47 hl (k := 3) rfl (by decide) (fun _ => rfl) (z := 1) rfl h (fun x11 ls h hl => ?_)
            refine lv_goto (tgt := 14) hC.x hC.b dX12_from_50 (by decide) ?_
            exact ih2 x10 x11 m6 H locs ls (ap3 es2 h) hH (lv_sub hl [2, 3, 1, 0] rfl)
          clear ej8
          refine b_if_ge (tgt := 42) hC dX12_from_35 (by decide) h (fun h => ?_) (fun h => ?_)
          · refine lv_iconst (v := 1) hC.x hC.b dX12_from_42 rfl ?_
            refine lv_iload_n hC.x hC.b dX12_from_43 rfl (lv_at hl 3 rfl) ?_
            refine lv_ishl hC.x hC.b dX12_from_44 ?_
            exact hj8 ((1 : Int32) <<< (x4 &&& 31)) H locs ls h hH (lv_sub hl [0, 1, 3] rfl)
          · refine lv_iconst (v := 0) hC.x hC.b dX12_from_38 rfl ?_
            refine lv_goto (tgt := 45) hC.x hC.b dX12_from_39 (by decide) ?_
            exact hj8 (0 : Int32) H locs ls h hH (lv_sub hl [0, 1, 3] rfl)
    exact hl2 _ (0 : Int32) (0 : Int32) mem H locs ls h hH (lv_sub hl [2, 3, 1, 0] rfl)
  · refine lv_iconst (v := -1) hC.x hC.b dX12_from_8 rfl ?_
    rw [hQ]
    exact e_i hC hr hH h dX12_from_9
def s_X12_odds_27 (j3 : Int32 → gMem → Option (Int64 × gMem)) (p0 : Int32) (self4 : Int32 → Int32 → gMem → Option (Int64 × gMem)) (x5 : Int32) (x6 : Int32) (m7 : gMem) : Option (Int64 × gMem) := if (12 : Int32) ≤ x6 then ((j3 x5 m7)) else jn ((fun (x9 : Int32) => bd2 (f_X12_goesBy m7 p0 ((gI m7 0 1) + x6) x9) fun (x11 : Int32) (m10 : gMem) => jn ((fun (x13 : Int32) => lt1 (x5 + x13) fun (x14 : Int32) => lt1 (x6 + (1 : Int32)) fun (x15 : Int32) => (self4 x14 x15 m10)) : Int32 → Option (Int64 × gMem)) fun j12 => if 0 ≤ x11 then ((j12 (0 : Int32))) else (j12 (1 : Int32))) : Int32 → Option (Int64 × gMem)) fun j8 => if x6 ≤ (gI m7 0 2) then ((j8 ((gI m7 0 2) - x6))) else (j8 (0 : Int32))
def f_X12_odds (mem : gMem) (p0 : Int32) (p1 : Int32) : Option (Int64 × gMem) := bd (f_X12_isWalker mem p0) fun (x1 : Int32) => if x1 = 0 then (some ((-9223372036854775808 : Int64), mem)) else bd (f_X12_in p1 (0 : Int32) (1 : Int32)) fun (x2 : Int32) => if x2 = 0 then (some ((-9223372036854775808 : Int64), mem)) else jn ((fun (x16 : Int32) (m17 : gMem) => bd (f_X12_lowest x16 (12 : Int32) p1) fun (y18 : Int64) => some (y18, m17)) : Int32 → gMem → Option (Int64 × gMem)) fun j3 => lq3 (s_X12_odds_27 j3 p0) 1000 (0 : Int32) (0 : Int32) mem
set_option maxRecDepth 100000 in
set_option maxHeartbeats 4000000 in
theorem c_X12_odds {l : Launch} {E : State → Prop} {D : va_G} {cy : Nat → ClassId} {ad : Nat → Nat} {L : List Nat} {mem : gMem} {p0 : Int32} {p1 : Int32} {rv : Int64} {memz : gMem} (hk : gOk ad L) (hL : ∀ o ∈ LM0, o ∈ L) (hE : gEok ad L E)  (h : f_X12_odds mem p0 p1 = some (rv, memz)) : gMet l yX12_odds cX12_odds 5 (some .long) 7 177 E D cy shM ad L [.ref (ad 0), .int p0, .int p1] mem memz (some (.long rv)) := by
  refine g_go (own := RX12) (by decide +kernel) rfl hE (Nat.le_of_ble_eq_true rfl) ?_
  intro p e s m args below meth c R Q hargs hR hQ hEs hC hr hX H locs ls hH hl
  have hF := gF_of hk
  have hl : lv_has ls 5 [(0, .ref (ad 0)), (1, .int p0), (2, .int p1)] := hl
  refine lv_aload_n hC.x hC.b dX12_odds_0 rfl (lv_at hl 0 rfl) ?_
  refine lv_iload_n hC.x hC.b dX12_odds_1 rfl (lv_at hl 1 rfl) ?_
  obtain ⟨x1, hf1, h⟩ := bd_e h
  refine c_V1 (As := [.int p0]) (rest := []) (o := 0) (q := (RX12, TX12, 74)) hC hX hE.2.1 hF hH (c_X12_isWalker (l := l) hk hL hE hf1) kw376 kw377 kw378 kw5 kw379 a_X12_isWalker.1 a_X12_isWalker.2 (hL _ mM0) sM0 rfl rfl hl.1 (rmk hR (by decide) (by decide)) (Nat.le_of_ble_eq_true rfl) dX12_odds_2 (fun H locs hH => ?_)
  refine b_if_eq (tgt := 18) hC dX12_odds_5 (by decide) h (fun h => ?_) (fun h => ?_)
  · refine lv_ldc2 (v := -9223372036854775808) hC.x hC.b hC.ow (hC.ts _ kw1006) dX12_odds_18 ?_
    rw [hQ]
    exact e_l hC hr hH h dX12_odds_21
  · refine lv_aload_n hC.x hC.b dX12_odds_8 rfl (lv_at hl 0 rfl) ?_
    refine lv_iload_n hC.x hC.b dX12_odds_9 rfl (lv_at hl 2 rfl) ?_
    refine lv_iconst (v := 0) hC.x hC.b dX12_odds_10 rfl ?_
    refine lv_iconst (v := 1) hC.x hC.b dX12_odds_11 rfl ?_
    obtain ⟨x2, hf2, h⟩ := bd_e h
    refine c_V1 (As := [.int p1, .int (0 : Int32), .int (1 : Int32)]) (rest := []) (o := 0) (q := (RX12, TX12, 74)) hC hX hE.2.1 hF hH (c_X12_in (l := l) hk hL hE hf2) kw167 kw168 kw169 kw5 kw170 a_X12_in.1 a_X12_in.2 (hL _ mM0) sM0 rfl rfl hl.1 (rmk hR (by decide) (by decide)) (Nat.le_of_ble_eq_true rfl) dX12_odds_12 (fun H locs hH => ?_)
    refine b_if_ne (tgt := 22) hC dX12_odds_15 (by decide) h (fun h => ?_) (fun h => ?_)
    · refine lv_iconst (v := 0) hC.x hC.b dX12_odds_22 rfl ?_
      refine lv_istore_n (lv' := [(3, .int (0 : Int32)), (0, .ref (ad 0)), (1, .int p0), (2, .int p1)]) hC.x hC.b dX12_odds_23 rfl hl (by decide) rfl (fun ls hl => ?_)
      refine lv_iconst (v := 0) hC.x hC.b dX12_odds_24 rfl ?_
      refine lv_istore (lv' := [(4, .int (0 : Int32)), (3, .int (0 : Int32)), (0, .ref (ad 0)), (1, .int p0), (2, .int p1)]) hC.x hC.b dX12_odds_25 hl (by decide) rfl (fun ls hl => ?_)
      obtain ⟨j3, ej3, h⟩ := jn_e h
      have hj3 : ∀ (x16 : Int32) (m17 : gMem) (H : Heap) (locs : List Loc) (ls : Array Slot), (j3 x16 m17) = some (rv, memz) → gH D cy shM ad L (gA ad L) s.heap m17 H locs → lv_has ls 5 [(0, .ref (ad 0)), (2, .int p1), (3, .int x16)] → W p l e R s m args below meth c H locs 0 0 Q (F0 m 83 ls []) := by
        intro x16 m17 H locs ls h hH hl
        have h := ap2 ej3 h
        refine lv_aload_n hC.x hC.b dX12_odds_83 rfl (lv_at hl 0 rfl) ?_
        refine lv_iload_n hC.x hC.b dX12_odds_84 rfl (lv_at hl 2 rfl) ?_
        refine lv_bipush (v := 12) hC.x hC.b dX12_odds_85 rfl ?_
        refine lv_iload_n hC.x hC.b dX12_odds_87 rfl (lv_at hl 1 rfl) ?_
        obtain ⟨y18, hf18, h⟩ := bd_e h
        refine c_V1 (As := [.int x16, .int (12 : Int32), .int p1]) (rest := []) (o := 0) (q := (RX12, TX12, 74)) hC hX hE.2.1 hF hH (c_X12_lowest (l := l) hk hL hE hf18) kw1007 kw1008 kw1009 kw5 kw1010 a_X12_lowest.1 a_X12_lowest.2 (hL _ mM0) sM0 rfl rfl hl.1 (rmk hR (by decide) (by decide)) (Nat.le_of_ble_eq_true rfl) dX12_odds_88 (fun H locs hH => ?_)
        rw [hQ]
        exact e_l hC hr hH h dX12_odds_91
      clear ej3
      have hl4 : ∀ (n : Nat) (x5 : Int32) (x6 : Int32) (m7 : gMem) (H : Heap) (locs : List Loc) (ls : Array Slot), lq3 (s_X12_odds_27 j3 p0) n x5 x6 m7 = some (rv, memz) → gH D cy shM ad L (gA ad L) s.heap m7 H locs → lv_has ls 5 [(0, .ref (ad 0)), (1, .int p0), (2, .int p1), (3, .int x5), (4, .int x6)] → W p l e R s m args below meth c H locs 0 0 Q (F0 m 27 ls []) := by
        intro n
        induction n with
        | zero => intro x5 x6 m7 H locs ls h _ _; exact lq3_0 h
        | succ n ih4 =>
          intro x5 x6 m7 H locs ls h hH hl
          obtain ⟨self4, es4, h⟩ := lq3_s h
          refine lv_iload hC.x hC.b dX12_odds_27 (lv_at hl 4 rfl) ?_
          refine lv_bipush (v := 12) hC.x hC.b dX12_odds_29 rfl ?_
          refine b_ic_ge (tgt := 83) hC dX12_odds_31 (by decide) h (fun h => ?_) (fun h => ?_)
          · exact hj3 x5 m7 H locs ls h hH (lv_sub hl [0, 2, 3] rfl)
          · refine lv_iload_n hC.x hC.b dX12_odds_34 rfl (lv_at hl 3 rfl) ?_
            refine lv_aload_n hC.x hC.b dX12_odds_35 rfl (lv_at hl 0 rfl) ?_
            refine lv_iload_n hC.x hC.b dX12_odds_36 rfl (lv_at hl 1 rfl) ?_
            refine lv_aload_n hC.x hC.b dX12_odds_37 rfl (lv_at hl 0 rfl) ?_
            refine r_geti hC hH fl_X12_13_12 (hL _ mM0) sM0 rfl dX12_odds_38 ?_
            refine lv_iload hC.x hC.b dX12_odds_41 (lv_at hl 4 rfl) ?_
            refine lv_iadd hC.x hC.b dX12_odds_43 ?_
            refine lv_aload_n hC.x hC.b dX12_odds_44 rfl (lv_at hl 0 rfl) ?_
            refine r_geti hC hH fl_X12_16_12 (hL _ mM0) sM0 rfl dX12_odds_45 ?_
            refine lv_iload hC.x hC.b dX12_odds_48 (lv_at hl 4 rfl) ?_
            obtain ⟨j8, ej8, h⟩ := jn_e h
            have hj8 : ∀ (x9 : Int32) (H : Heap) (locs : List Loc) (ls : Array Slot), (j8 x9) = some (rv, memz) → gH D cy shM ad L (gA ad L) s.heap m7 H locs → lv_has ls 5 [(0, .ref (ad 0)), (1, .int p0), (2, .int p1), (4, .int x6)] → W p l e R s m args below meth c H locs 0 0 Q (F0 m 64 ls [.int x9, .int ((gI m7 0 1) + x6), .int p0, .ref (ad 0), .int x5]) := by
              intro x9 H locs ls h hH hl
              have h := ap1 ej8 h
              obtain ⟨x11, m10, hf11, h⟩ := bd2_e h
              refine c_V1 (As := [.int p0, .int ((gI m7 0 1) + x6), .int x9]) (rest := [.int x5]) (o := 0) (q := (RX12, TX12, 74)) hC hX hE.2.1 hF hH (c_X12_goesBy (l := l) hk hL hE hf11) kw837 kw838 kw839 kw5 kw840 a_X12_goesBy.1 a_X12_goesBy.2 (hL _ mM0) sM0 rfl rfl hl.1 (rmk hR (by decide) (by decide)) (Nat.le_of_ble_eq_true rfl) dX12_odds_64 (fun H locs hH => ?_)
              obtain ⟨j12, ej12, h⟩ := jn_e h
              have hj12 : ∀ (x13 : Int32) (H : Heap) (locs : List Loc) (ls : Array Slot), (j12 x13) = some (rv, memz) → gH D cy shM ad L (gA ad L) s.heap m10 H locs → lv_has ls 5 [(0, .ref (ad 0)), (1, .int p0), (2, .int p1), (4, .int x6)] → W p l e R s m args below meth c H locs 0 0 Q (F0 m 75 ls [.int x13, .int x5]) := by
                intro x13 H locs ls h hH hl
                have h := ap1 ej12 h
                refine lv_iadd hC.x hC.b dX12_odds_75 ?_
                refine n_i h (fun x14 h => ?_)
                refine lv_istore_n (lv' := [(3, .int x14), (0, .ref (ad 0)), (1, .int p0), (2, .int p1), (4, .int x6)]) hC.x hC.b dX12_odds_76 rfl hl (by decide) rfl (fun ls hl => ?_)
                refine i_inc (lv' := fun x15 => [(4, .int x15), (3, .int x14), (0, .ref (ad 0)), (1, .int p0), (2, .int p1)]) hC dX12_odds_77 hl (k := 4) rfl (by decide) (fun _ => rfl) (z := 1) rfl h (fun x15 ls h hl => ?_)
                refine lv_goto (tgt := 27) hC.x hC.b dX12_odds_80 (by decide) ?_
                exact ih4 x14 x15 m10 H locs ls (ap3 es4 h) hH (lv_sub hl [2, 3, 4, 1, 0] rfl)
              clear ej12
              refine b_if_ge (tgt := 74) hC dX12_odds_67 (by decide) h (fun h => ?_) (fun h => ?_)
              · refine lv_iconst (v := 0) hC.x hC.b dX12_odds_74 rfl ?_
                exact hj12 (0 : Int32) H locs ls h hH (lv_sub hl [0, 1, 2, 3] rfl)
              · refine lv_iconst (v := 1) hC.x hC.b dX12_odds_70 rfl ?_
                refine lv_goto (tgt := 75) hC.x hC.b dX12_odds_71 (by decide) ?_
                exact hj12 (1 : Int32) H locs ls h hH (lv_sub hl [0, 1, 2, 3] rfl)
            clear ej8
            refine b_ic_ge (tgt := 57) hC dX12_odds_50 (by decide) h (fun h => ?_) (fun h => ?_)
            · refine lv_aload_n hC.x hC.b dX12_odds_57 rfl (lv_at hl 0 rfl) ?_
              refine r_geti hC hH fl_X12_16_12 (hL _ mM0) sM0 rfl dX12_odds_58 ?_
              refine lv_iload hC.x hC.b dX12_odds_61 (lv_at hl 4 rfl) ?_
              refine lv_isub hC.x hC.b dX12_odds_63 ?_
              exact hj8 ((gI m7 0 2) - x6) H locs ls h hH (lv_sub hl [0, 1, 2, 4] rfl)
            · refine lv_iconst (v := 0) hC.x hC.b dX12_odds_53 rfl ?_
              refine lv_goto (tgt := 64) hC.x hC.b dX12_odds_54 (by decide) ?_
              exact hj8 (0 : Int32) H locs ls h hH (lv_sub hl [0, 1, 2, 4] rfl)
      exact hl4 _ (0 : Int32) (0 : Int32) mem H locs ls h hH (lv_sub hl [2, 3, 4, 1, 0] rfl)
    · refine lv_ldc2 (v := -9223372036854775808) hC.x hC.b hC.ow (hC.ts _ kw1006) dX12_odds_18 ?_
      rw [hQ]
      exact e_l hC hr hH h dX12_odds_21
theorem a_X12_walkerTells : noMH yX12_walkerTells.cls ∧ arity yX12_walkerTells.desc 2 := by decide +kernel
def f_X12_tellsAct (mem : gMem) (p0 : Int32) (p1 : Int32) : Option (Int32 × gMem) := if okI p0 4 then lt1 (gI mem 2 (ix p0)) fun (x1 : Int32) => if x1 = 3 then (bd (f_X12_body mem (40 : Int32)) fun (m2 : gMem) => bd2 (f_X12_walkerTells m2 p0 p1) fun (x4 : Int32) (m3 : gMem) => bd2 (f_X12_goesAct m3 p0 (1 : Int32)) fun (x6 : Int32) (m5 : gMem) => some ((x4 + x6), m5)) else if x1 = 4 then (bd2 (f_X12_walkerTells mem p0 p1) fun (x8 : Int32) (m7 : gMem) => some (x8, m7)) else if x1 = 5 then (bd (f_X12_body mem (60 : Int32)) fun (m9 : gMem) => bd2 (f_X12_walkerTells m9 p0 (p1 - p0)) fun (x11 : Int32) (m10 : gMem) => some (x11, m10)) else if x1 = 6 then (bd (f_X12_body mem (40 : Int32)) fun (m12 : gMem) => bd2 (f_X12_walkerTells m12 p0 p1) fun (x14 : Int32) (m13 : gMem) => bd2 (f_X12_goesAct m13 p0 (1 : Int32)) fun (x16 : Int32) (m15 : gMem) => some ((x14 + x16), m15)) else bd2 (f_X12_walkerTells mem p0 p1) fun (x18 : Int32) (m17 : gMem) => some (x18, m17) else none
set_option maxRecDepth 100000 in
set_option maxHeartbeats 4000000 in
theorem c_X12_tellsAct {l : Launch} {E : State → Prop} {D : va_G} {cy : Nat → ClassId} {ad : Nat → Nat} {L : List Nat} {mem : gMem} {p0 : Int32} {p1 : Int32} {rv : Int32} {memz : gMem} (hk : gOk ad L) (hL : ∀ o ∈ LM0, o ∈ L) (hE : gEok ad L E)  (h : f_X12_tellsAct mem p0 p1 = some (rv, memz)) : gMet l yX12_tellsAct cX12_tellsAct 4 (some .int) 7 154 E D cy shM ad L [.ref (ad 0), .int p0, .int p1] mem memz (some (.int rv)) := by
  refine g_go (own := RX12) (by decide +kernel) rfl hE (Nat.le_of_ble_eq_true rfl) ?_
  intro p e s m args below meth c R Q hargs hR hQ hEs hC hr hX H locs ls hH hl
  have hF := gF_of hk
  have hl : lv_has ls 4 [(0, .ref (ad 0)), (1, .int p0), (2, .int p1)] := hl
  refine lv_aload_n hC.x hC.b dX12_tellsAct_0 rfl (lv_at hl 0 rfl) ?_
  refine r_getc (z := 2) hC hH fl_X12_33_12 (hL _ mM0) sM0 rfl dX12_tellsAct_1 ?_
  refine lv_iload_n hC.x hC.b dX12_tellsAct_4 rfl (lv_at hl 1 rfl) ?_
  refine r_iald hC hH (hL _ mM2) sM2 h dX12_tellsAct_5 (fun h => ?_)
  refine n_i h (fun x1 h => ?_)
  by_cases hx0 : x1 = 3
  · have h := ifp hx0 h
    refine lv_tableIn (off := 30) (tgt := 36) hC.x hC.b dX12_tellsAct_6 (by rw [hx0]; decide) (by rw [hx0]; decide) (by rw [hx0]; rfl) (by decide) ?_
    refine lv_aload_n hC.x hC.b dX12_tellsAct_36 rfl (lv_at hl 0 rfl) ?_
    refine lv_bipush (v := 40) hC.x hC.b dX12_tellsAct_37 rfl ?_
    obtain ⟨m2, hf2, h⟩ := bd_e h
    refine c_V0 (As := [.int (40 : Int32)]) (rest := []) (o := 0) (q := (RX12, TX12, 74)) hC hX hE.2.1 hF hH (c_X12_body (l := l) hk hL hE hf2) kw1242 kw1243 kw1244 kw5 kw1245 a_X12_body.1 a_X12_body.2 (hL _ mM0) sM0 rfl rfl hl.1 (rmk hR (by decide) (by decide)) (Nat.le_of_ble_eq_true rfl) dX12_tellsAct_39 (fun H locs hH => ?_)
    refine lv_aload_n hC.x hC.b dX12_tellsAct_42 rfl (lv_at hl 0 rfl) ?_
    refine lv_iload_n hC.x hC.b dX12_tellsAct_43 rfl (lv_at hl 1 rfl) ?_
    refine lv_iload_n hC.x hC.b dX12_tellsAct_44 rfl (lv_at hl 2 rfl) ?_
    obtain ⟨x4, m3, hf4, h⟩ := bd2_e h
    refine c_V1 (As := [.int p0, .int p1]) (rest := []) (o := 0) (q := (RX12, TX12, 74)) hC hX hE.2.1 hF hH (c_X12_walkerTells (l := l) hk hL hE hf4) kw1266 kw1267 kw1268 kw5 kw1269 a_X12_walkerTells.1 a_X12_walkerTells.2 (hL _ mM0) sM0 rfl rfl hl.1 (rmk hR (by decide) (by decide)) (Nat.le_of_ble_eq_true rfl) dX12_tellsAct_45 (fun H locs hH => ?_)
    refine lv_istore_n (lv' := [(3, .int x4), (0, .ref (ad 0)), (1, .int p0), (2, .int p1)]) hC.x hC.b dX12_tellsAct_48 rfl hl (by decide) rfl (fun ls hl => ?_)
    refine lv_iload_n hC.x hC.b dX12_tellsAct_49 rfl (lv_at hl 0 rfl) ?_
    refine lv_aload_n hC.x hC.b dX12_tellsAct_50 rfl (lv_at hl 1 rfl) ?_
    refine lv_iload_n hC.x hC.b dX12_tellsAct_51 rfl (lv_at hl 2 rfl) ?_
    refine lv_iconst (v := 1) hC.x hC.b dX12_tellsAct_52 rfl ?_
    obtain ⟨x6, m5, hf6, h⟩ := bd2_e h
    refine c_V1 (As := [.int p0, .int (1 : Int32)]) (rest := [.int x4]) (o := 0) (q := (RX12, TX12, 74)) hC hX hE.2.1 hF hH (c_X12_goesAct (l := l) hk hL hE hf6) kw1250 kw1251 kw1252 kw5 kw1253 a_X12_goesAct.1 a_X12_goesAct.2 (hL _ mM0) sM0 rfl rfl hl.1 (rmk hR (by decide) (by decide)) (Nat.le_of_ble_eq_true rfl) dX12_tellsAct_53 (fun H locs hH => ?_)
    refine lv_iadd hC.x hC.b dX12_tellsAct_56 ?_
    rw [hQ]
    exact e_i hC hr hH h dX12_tellsAct_57
  have h := ifn hx0 h
  by_cases hx1 : x1 = 4
  · have h := ifp hx1 h
    refine lv_tableIn (off := 67) (tgt := 73) hC.x hC.b dX12_tellsAct_6 (by rw [hx1]; decide) (by rw [hx1]; decide) (by rw [hx1]; rfl) (by decide) ?_
    refine lv_aload_n hC.x hC.b dX12_tellsAct_73 rfl (lv_at hl 0 rfl) ?_
    refine lv_iload_n hC.x hC.b dX12_tellsAct_74 rfl (lv_at hl 1 rfl) ?_
    refine lv_iload_n hC.x hC.b dX12_tellsAct_75 rfl (lv_at hl 2 rfl) ?_
    obtain ⟨x8, m7, hf8, h⟩ := bd2_e h
    refine c_V1 (As := [.int p0, .int p1]) (rest := []) (o := 0) (q := (RX12, TX12, 74)) hC hX hE.2.1 hF hH (c_X12_walkerTells (l := l) hk hL hE hf8) kw1266 kw1267 kw1268 kw5 kw1269 a_X12_walkerTells.1 a_X12_walkerTells.2 (hL _ mM0) sM0 rfl rfl hl.1 (rmk hR (by decide) (by decide)) (Nat.le_of_ble_eq_true rfl) dX12_tellsAct_76 (fun H locs hH => ?_)
    rw [hQ]
    exact e_i hC hr hH h dX12_tellsAct_79
  have h := ifn hx1 h
  by_cases hx2 : x1 = 5
  · have h := ifp hx2 h
    refine lv_tableIn (off := 52) (tgt := 58) hC.x hC.b dX12_tellsAct_6 (by rw [hx2]; decide) (by rw [hx2]; decide) (by rw [hx2]; rfl) (by decide) ?_
    refine lv_aload_n hC.x hC.b dX12_tellsAct_58 rfl (lv_at hl 0 rfl) ?_
    refine lv_bipush (v := 60) hC.x hC.b dX12_tellsAct_59 rfl ?_
    obtain ⟨m9, hf9, h⟩ := bd_e h
    refine c_V0 (As := [.int (60 : Int32)]) (rest := []) (o := 0) (q := (RX12, TX12, 74)) hC hX hE.2.1 hF hH (c_X12_body (l := l) hk hL hE hf9) kw1242 kw1243 kw1244 kw5 kw1245 a_X12_body.1 a_X12_body.2 (hL _ mM0) sM0 rfl rfl hl.1 (rmk hR (by decide) (by decide)) (Nat.le_of_ble_eq_true rfl) dX12_tellsAct_61 (fun H locs hH => ?_)
    refine lv_aload_n hC.x hC.b dX12_tellsAct_64 rfl (lv_at hl 0 rfl) ?_
    refine lv_iload_n hC.x hC.b dX12_tellsAct_65 rfl (lv_at hl 1 rfl) ?_
    refine lv_iload_n hC.x hC.b dX12_tellsAct_66 rfl (lv_at hl 2 rfl) ?_
    refine lv_iload_n hC.x hC.b dX12_tellsAct_67 rfl (lv_at hl 1 rfl) ?_
    refine lv_isub hC.x hC.b dX12_tellsAct_68 ?_
    obtain ⟨x11, m10, hf11, h⟩ := bd2_e h
    refine c_V1 (As := [.int p0, .int (p1 - p0)]) (rest := []) (o := 0) (q := (RX12, TX12, 74)) hC hX hE.2.1 hF hH (c_X12_walkerTells (l := l) hk hL hE hf11) kw1266 kw1267 kw1268 kw5 kw1269 a_X12_walkerTells.1 a_X12_walkerTells.2 (hL _ mM0) sM0 rfl rfl hl.1 (rmk hR (by decide) (by decide)) (Nat.le_of_ble_eq_true rfl) dX12_tellsAct_69 (fun H locs hH => ?_)
    rw [hQ]
    exact e_i hC hr hH h dX12_tellsAct_72
  have h := ifn hx2 h
  by_cases hx3 : x1 = 6
  · have h := ifp hx3 h
    refine lv_tableIn (off := 30) (tgt := 36) hC.x hC.b dX12_tellsAct_6 (by rw [hx3]; decide) (by rw [hx3]; decide) (by rw [hx3]; rfl) (by decide) ?_
    refine lv_aload_n hC.x hC.b dX12_tellsAct_36 rfl (lv_at hl 0 rfl) ?_
    refine lv_bipush (v := 40) hC.x hC.b dX12_tellsAct_37 rfl ?_
    obtain ⟨m12, hf12, h⟩ := bd_e h
    refine c_V0 (As := [.int (40 : Int32)]) (rest := []) (o := 0) (q := (RX12, TX12, 74)) hC hX hE.2.1 hF hH (c_X12_body (l := l) hk hL hE hf12) kw1242 kw1243 kw1244 kw5 kw1245 a_X12_body.1 a_X12_body.2 (hL _ mM0) sM0 rfl rfl hl.1 (rmk hR (by decide) (by decide)) (Nat.le_of_ble_eq_true rfl) dX12_tellsAct_39 (fun H locs hH => ?_)
    refine lv_aload_n hC.x hC.b dX12_tellsAct_42 rfl (lv_at hl 0 rfl) ?_
    refine lv_iload_n hC.x hC.b dX12_tellsAct_43 rfl (lv_at hl 1 rfl) ?_
    refine lv_iload_n hC.x hC.b dX12_tellsAct_44 rfl (lv_at hl 2 rfl) ?_
    obtain ⟨x14, m13, hf14, h⟩ := bd2_e h
    refine c_V1 (As := [.int p0, .int p1]) (rest := []) (o := 0) (q := (RX12, TX12, 74)) hC hX hE.2.1 hF hH (c_X12_walkerTells (l := l) hk hL hE hf14) kw1266 kw1267 kw1268 kw5 kw1269 a_X12_walkerTells.1 a_X12_walkerTells.2 (hL _ mM0) sM0 rfl rfl hl.1 (rmk hR (by decide) (by decide)) (Nat.le_of_ble_eq_true rfl) dX12_tellsAct_45 (fun H locs hH => ?_)
    refine lv_istore_n (lv' := [(3, .int x14), (0, .ref (ad 0)), (1, .int p0), (2, .int p1)]) hC.x hC.b dX12_tellsAct_48 rfl hl (by decide) rfl (fun ls hl => ?_)
    refine lv_iload_n hC.x hC.b dX12_tellsAct_49 rfl (lv_at hl 0 rfl) ?_
    refine lv_aload_n hC.x hC.b dX12_tellsAct_50 rfl (lv_at hl 1 rfl) ?_
    refine lv_iload_n hC.x hC.b dX12_tellsAct_51 rfl (lv_at hl 2 rfl) ?_
    refine lv_iconst (v := 1) hC.x hC.b dX12_tellsAct_52 rfl ?_
    obtain ⟨x16, m15, hf16, h⟩ := bd2_e h
    refine c_V1 (As := [.int p0, .int (1 : Int32)]) (rest := [.int x14]) (o := 0) (q := (RX12, TX12, 74)) hC hX hE.2.1 hF hH (c_X12_goesAct (l := l) hk hL hE hf16) kw1250 kw1251 kw1252 kw5 kw1253 a_X12_goesAct.1 a_X12_goesAct.2 (hL _ mM0) sM0 rfl rfl hl.1 (rmk hR (by decide) (by decide)) (Nat.le_of_ble_eq_true rfl) dX12_tellsAct_53 (fun H locs hH => ?_)
    refine lv_iadd hC.x hC.b dX12_tellsAct_56 ?_
    rw [hQ]
    exact e_i hC hr hH h dX12_tellsAct_57
  have h := ifn hx3 h
  refine lv_tableOut (tgt := 73) hC.x hC.b dX12_tellsAct_6 (by have a0 := ne_ti (v := 3) (z := 3) rfl hx0; have a1 := ne_ti (v := 4) (z := 4) rfl hx1; have a2 := ne_ti (v := 5) (z := 5) rfl hx2; have a3 := ne_ti (v := 6) (z := 6) rfl hx3; omega) (by decide) ?_
  refine lv_aload_n hC.x hC.b dX12_tellsAct_73 rfl (lv_at hl 0 rfl) ?_
  refine lv_iload_n hC.x hC.b dX12_tellsAct_74 rfl (lv_at hl 1 rfl) ?_
  refine lv_iload_n hC.x hC.b dX12_tellsAct_75 rfl (lv_at hl 2 rfl) ?_
  obtain ⟨x18, m17, hf18, h⟩ := bd2_e h
  refine c_V1 (As := [.int p0, .int p1]) (rest := []) (o := 0) (q := (RX12, TX12, 74)) hC hX hE.2.1 hF hH (c_X12_walkerTells (l := l) hk hL hE hf18) kw1266 kw1267 kw1268 kw5 kw1269 a_X12_walkerTells.1 a_X12_walkerTells.2 (hL _ mM0) sM0 rfl rfl hl.1 (rmk hR (by decide) (by decide)) (Nat.le_of_ble_eq_true rfl) dX12_tellsAct_76 (fun H locs hH => ?_)
  rw [hQ]
  exact e_i hC hr hH h dX12_tellsAct_79
theorem a_X12_outNow : noMH yX12_outNow.cls ∧ arity yX12_outNow.desc 1 := by decide +kernel
def f_X12_out (mem : gMem) (p0 : Int32) : Option (Int32 × gMem) := bd (f_X12_isWalker mem p0) fun (x1 : Int32) => if x1 = 0 then (some ((-1 : Int32), mem)) else bd2 (f_X12_outNow mem p0) fun (x3 : Int32) (m2 : gMem) => some (x3, m2)
set_option maxRecDepth 100000 in
set_option maxHeartbeats 4000000 in
theorem c_X12_out {l : Launch} {E : State → Prop} {D : va_G} {cy : Nat → ClassId} {ad : Nat → Nat} {L : List Nat} {mem : gMem} {p0 : Int32} {rv : Int32} {memz : gMem} (hk : gOk ad L) (hL : ∀ o ∈ LM0, o ∈ L) (hE : gEok ad L E)  (h : f_X12_out mem p0 = some (rv, memz)) : gMet l yX12_out cX12_out 2 (some .int) 8 204 E D cy shM ad L [.ref (ad 0), .int p0] mem memz (some (.int rv)) := by
  refine g_go (own := RX12) (by decide +kernel) rfl hE (Nat.le_of_ble_eq_true rfl) ?_
  intro p e s m args below meth c R Q hargs hR hQ hEs hC hr hX H locs ls hH hl
  have hF := gF_of hk
  have hl : lv_has ls 2 [(0, .ref (ad 0)), (1, .int p0)] := hl
  refine lv_aload_n hC.x hC.b dX12_out_0 rfl (lv_at hl 0 rfl) ?_
  refine lv_iload_n hC.x hC.b dX12_out_1 rfl (lv_at hl 1 rfl) ?_
  obtain ⟨x1, hf1, h⟩ := bd_e h
  refine c_V1 (As := [.int p0]) (rest := []) (o := 0) (q := (RX12, TX12, 74)) hC hX hE.2.1 hF hH (c_X12_isWalker (l := l) hk hL hE hf1) kw376 kw377 kw378 kw5 kw379 a_X12_isWalker.1 a_X12_isWalker.2 (hL _ mM0) sM0 rfl rfl hl.1 (rmk hR (by decide) (by decide)) (Nat.le_of_ble_eq_true rfl) dX12_out_2 (fun H locs hH => ?_)
  refine b_if_eq (tgt := 16) hC dX12_out_5 (by decide) h (fun h => ?_) (fun h => ?_)
  · refine lv_iconst (v := -1) hC.x hC.b dX12_out_16 rfl ?_
    rw [hQ]
    exact e_i hC hr hH h dX12_out_17
  · refine lv_aload_n hC.x hC.b dX12_out_8 rfl (lv_at hl 0 rfl) ?_
    refine lv_iload_n hC.x hC.b dX12_out_9 rfl (lv_at hl 1 rfl) ?_
    obtain ⟨x3, m2, hf3, h⟩ := bd2_e h
    refine c_V1 (As := [.int p0]) (rest := []) (o := 0) (q := (RX12, TX12, 74)) hC hX hE.2.1 hF hH (c_X12_outNow (l := l) hk hL hE hf3) kw865 kw866 kw867 kw5 kw868 a_X12_outNow.1 a_X12_outNow.2 (hL _ mM0) sM0 rfl rfl hl.1 (rmk hR (by decide) (by decide)) (Nat.le_of_ble_eq_true rfl) dX12_out_10 (fun H locs hH => ?_)
    refine lv_goto (tgt := 17) hC.x hC.b dX12_out_13 (by decide) ?_
    rw [hQ]
    exact e_i hC hr hH h dX12_out_17
def s_X12_mend_22 (p0 : Int32) (self4 : Int32 → Int32 → Int32 → gMem → Option (Int32 × gMem)) (x5 : Int32) (x6 : Int32) (x7 : Int32) (m8 : gMem) : Option (Int32 × gMem) := if (12 : Int32) ≤ x7 then (some (x6, m8)) else if okI x7 12 then lt1 (gI m8 1 (ix x7)) fun (x9 : Int32) => if okI x7 12 then lt1 (gsI m8 1 (ix x7) (0 : Int32)) fun (m10 : gMem) => bd2 (f_X12_outNow m10 p0) fun (x12 : Int32) (m11 : gMem) => if okI x7 12 then lt1 (gsI m11 1 (ix x7) x9) fun (m13 : gMem) => jn ((fun (x16 : Int32) (x17 : Int32) => lt1 (x7 + (1 : Int32)) fun (x18 : Int32) => (self4 x16 x17 x18 m13)) : Int32 → Int32 → Option (Int32 × gMem)) fun j14 => if x12 < 0 then ((j14 x5 x6)) else jn (((j14 x12 x7)) : Option (Int32 × gMem)) fun j15 => if x5 < 0 then (j15) else if x12 < x5 then (j15) else (j14 x5 x6) else none else none else none
def f_X12_mend (mem : gMem) (p0 : Int32) : Option (Int32 × gMem) := bd (f_X12_isWalker mem p0) fun (x1 : Int32) => if x1 = 0 then (some ((-1 : Int32), mem)) else bd2 (f_X12_outNow mem p0) fun (x3 : Int32) (m2 : gMem) => lq4 (s_X12_mend_22 p0) 1000 x3 (-5 : Int32) (0 : Int32) m2
set_option maxRecDepth 100000 in
set_option maxHeartbeats 4000000 in
theorem c_X12_mend {l : Launch} {E : State → Prop} {D : va_G} {cy : Nat → ClassId} {ad : Nat → Nat} {L : List Nat} {mem : gMem} {p0 : Int32} {rv : Int32} {memz : gMem} (hk : gOk ad L) (hL : ∀ o ∈ LM0, o ∈ L) (hE : gEok ad L E)  (h : f_X12_mend mem p0 = some (rv, memz)) : gMet l yX12_mend cX12_mend 7 (some .int) 8 204 E D cy shM ad L [.ref (ad 0), .int p0] mem memz (some (.int rv)) := by
  refine g_go (own := RX12) (by decide +kernel) rfl hE (Nat.le_of_ble_eq_true rfl) ?_
  intro p e s m args below meth c R Q hargs hR hQ hEs hC hr hX H locs ls hH hl
  have hF := gF_of hk
  have hl : lv_has ls 7 [(0, .ref (ad 0)), (1, .int p0)] := hl
  refine lv_aload_n hC.x hC.b dX12_mend_0 rfl (lv_at hl 0 rfl) ?_
  refine lv_iload_n hC.x hC.b dX12_mend_1 rfl (lv_at hl 1 rfl) ?_
  obtain ⟨x1, hf1, h⟩ := bd_e h
  refine c_V1 (As := [.int p0]) (rest := []) (o := 0) (q := (RX12, TX12, 74)) hC hX hE.2.1 hF hH (c_X12_isWalker (l := l) hk hL hE hf1) kw376 kw377 kw378 kw5 kw379 a_X12_isWalker.1 a_X12_isWalker.2 (hL _ mM0) sM0 rfl rfl hl.1 (rmk hR (by decide) (by decide)) (Nat.le_of_ble_eq_true rfl) dX12_mend_2 (fun H locs hH => ?_)
  refine b_if_ne (tgt := 10) hC dX12_mend_5 (by decide) h (fun h => ?_) (fun h => ?_)
  · refine lv_aload_n hC.x hC.b dX12_mend_10 rfl (lv_at hl 0 rfl) ?_
    refine lv_iload_n hC.x hC.b dX12_mend_11 rfl (lv_at hl 1 rfl) ?_
    obtain ⟨x3, m2, hf3, h⟩ := bd2_e h
    refine c_V1 (As := [.int p0]) (rest := []) (o := 0) (q := (RX12, TX12, 74)) hC hX hE.2.1 hF hH (c_X12_outNow (l := l) hk hL hE hf3) kw865 kw866 kw867 kw5 kw868 a_X12_outNow.1 a_X12_outNow.2 (hL _ mM0) sM0 rfl rfl hl.1 (rmk hR (by decide) (by decide)) (Nat.le_of_ble_eq_true rfl) dX12_mend_12 (fun H locs hH => ?_)
    refine lv_istore_n (lv' := [(2, .int x3), (0, .ref (ad 0)), (1, .int p0)]) hC.x hC.b dX12_mend_15 rfl hl (by decide) rfl (fun ls hl => ?_)
    refine lv_bipush (v := -5) hC.x hC.b dX12_mend_16 rfl ?_
    refine lv_istore_n (lv' := [(3, .int (-5 : Int32)), (2, .int x3), (0, .ref (ad 0)), (1, .int p0)]) hC.x hC.b dX12_mend_18 rfl hl (by decide) rfl (fun ls hl => ?_)
    refine lv_iconst (v := 0) hC.x hC.b dX12_mend_19 rfl ?_
    refine lv_istore (lv' := [(4, .int (0 : Int32)), (3, .int (-5 : Int32)), (2, .int x3), (0, .ref (ad 0)), (1, .int p0)]) hC.x hC.b dX12_mend_20 hl (by decide) rfl (fun ls hl => ?_)
    have hl4 : ∀ (n : Nat) (x5 : Int32) (x6 : Int32) (x7 : Int32) (m8 : gMem) (H : Heap) (locs : List Loc) (ls : Array Slot), lq4 (s_X12_mend_22 p0) n x5 x6 x7 m8 = some (rv, memz) → gH D cy shM ad L (gA ad L) s.heap m8 H locs → lv_has ls 7 [(0, .ref (ad 0)), (1, .int p0), (2, .int x5), (3, .int x6), (4, .int x7)] → W p l e R s m args below meth c H locs 0 0 Q (F0 m 22 ls []) := by
      intro n
      induction n with
      | zero => intro x5 x6 x7 m8 H locs ls h _ _; exact lq4_0 h
      | succ n ih4 =>
        intro x5 x6 x7 m8 H locs ls h hH hl
        obtain ⟨self4, es4, h⟩ := lq4_s h
        refine lv_iload hC.x hC.b dX12_mend_22 (lv_at hl 4 rfl) ?_
        refine lv_bipush (v := 12) hC.x hC.b dX12_mend_24 rfl ?_
        refine b_ic_ge (tgt := 92) hC dX12_mend_26 (by decide) h (fun h => ?_) (fun h => ?_)
        · refine lv_iload_n hC.x hC.b dX12_mend_92 rfl (lv_at hl 3 rfl) ?_
          rw [hQ]
          exact e_i hC hr hH h dX12_mend_93
        · refine lv_aload_n hC.x hC.b dX12_mend_29 rfl (lv_at hl 0 rfl) ?_
          refine r_getc (z := 1) hC hH fl_X12_29_12 (hL _ mM0) sM0 rfl dX12_mend_30 ?_
          refine lv_iload hC.x hC.b dX12_mend_33 (lv_at hl 4 rfl) ?_
          refine r_iald hC hH (hL _ mM1) sM1 h dX12_mend_35 (fun h => ?_)
          refine n_i h (fun x9 h => ?_)
          refine lv_istore (lv' := [(5, .int x9), (0, .ref (ad 0)), (1, .int p0), (2, .int x5), (3, .int x6), (4, .int x7)]) hC.x hC.b dX12_mend_36 hl (by decide) rfl (fun ls hl => ?_)
          refine lv_aload_n hC.x hC.b dX12_mend_38 rfl (lv_at hl 1 rfl) ?_
          refine r_getc (z := 1) hC hH fl_X12_29_12 (hL _ mM0) sM0 rfl dX12_mend_39 ?_
          refine lv_iload hC.x hC.b dX12_mend_42 (lv_at hl 5 rfl) ?_
          refine lv_iconst (v := 0) hC.x hC.b dX12_mend_44 rfl ?_
          refine r_iast hC hF hH (hL _ mM1) sM1 h dX12_mend_45 (fun m10 H locs h hH => ?_)
          refine lv_aload_n hC.x hC.b dX12_mend_46 rfl (lv_at hl 1 rfl) ?_
          refine lv_iload_n hC.x hC.b dX12_mend_47 rfl (lv_at hl 2 rfl) ?_
          obtain ⟨x12, m11, hf12, h⟩ := bd2_e h
          refine c_V1 (As := [.int p0]) (rest := []) (o := 0) (q := (RX12, TX12, 74)) hC hX hE.2.1 hF hH (c_X12_outNow (l := l) hk hL hE hf12) kw865 kw866 kw867 kw5 kw868 a_X12_outNow.1 a_X12_outNow.2 (hL _ mM0) sM0 rfl rfl hl.1 (rmk hR (by decide) (by decide)) (Nat.le_of_ble_eq_true rfl) dX12_mend_48 (fun H locs hH => ?_)
          refine lv_istore (lv' := [(6, .int x12), (5, .int x9), (0, .ref (ad 0)), (1, .int p0), (2, .int x5), (3, .int x6), (4, .int x7)]) hC.x hC.b dX12_mend_51 hl (by decide) rfl (fun ls hl => ?_)
          refine lv_aload_n hC.x hC.b dX12_mend_53 rfl (lv_at hl 2 rfl) ?_
          refine r_getc (z := 1) hC hH fl_X12_29_12 (hL _ mM0) sM0 rfl dX12_mend_54 ?_
          refine lv_iload hC.x hC.b dX12_mend_57 (lv_at hl 6 rfl) ?_
          refine lv_iload hC.x hC.b dX12_mend_59 (lv_at hl 1 rfl) ?_
          refine r_iast hC hF hH (hL _ mM1) sM1 h dX12_mend_61 (fun m13 H locs h hH => ?_)
          refine lv_iload hC.x hC.b dX12_mend_62 (lv_at hl 0 rfl) ?_
          obtain ⟨j14, ej14, h⟩ := jn_e h
          have hj14 : ∀ (x16 : Int32) (x17 : Int32) (H : Heap) (locs : List Loc) (ls : Array Slot), (j14 x16 x17) = some (rv, memz) → gH D cy shM ad L (gA ad L) s.heap m13 H locs → lv_has ls 7 [(0, .ref (ad 0)), (1, .int p0), (2, .int x16), (3, .int x17), (4, .int x7)] → W p l e R s m args below meth c H locs 0 0 Q (F0 m 86 ls []) := by
            intro x16 x17 H locs ls h hH hl
            have h := ap2 ej14 h
            refine i_inc (lv' := fun x18 => [(4, .int x18), (0, .ref (ad 0)), (1, .int p0), (2, .int x16), (3, .int x17)]) hC dX12_mend_86 hl (k := 4) rfl (by decide) (fun _ => rfl) (z := 1) rfl h (fun x18 ls h hl => ?_)
            refine lv_goto (tgt := 22) hC.x hC.b dX12_mend_89 (by decide) ?_
            exact ih4 x16 x17 x18 m13 H locs ls (ap4 es4 h) hH (lv_sub hl [1, 2, 3, 4, 0] rfl)
          clear ej14
          refine b_if_lt (tgt := 86) hC dX12_mend_64 (by decide) h (fun h => ?_) (fun h => ?_)
          · exact hj14 x5 x6 H locs ls h hH (lv_sub hl [2, 3, 4, 5, 6] rfl)
          · refine lv_iload_n hC.x hC.b dX12_mend_67 rfl (lv_at hl 4 rfl) ?_
            obtain ⟨j15, ej15, h⟩ := jn_e h
            have hj15 : ∀  (H : Heap) (locs : List Loc) (ls : Array Slot), j15 = some (rv, memz) → gH D cy shM ad L (gA ad L) s.heap m13 H locs → lv_has ls 7 [(0, .ref (ad 0)), (1, .int p0), (4, .int x7), (6, .int x12)] → W p l e R s m args below meth c H locs 0 0 Q (F0 m 80 ls []) := by
              intro H locs ls h hH hl
              have h := ap0 ej15 h
              refine lv_iload hC.x hC.b dX12_mend_80 (lv_at hl 2 rfl) ?_
              refine lv_istore_n (lv' := [(3, .int x7), (0, .ref (ad 0)), (1, .int p0), (4, .int x7), (6, .int x12)]) hC.x hC.b dX12_mend_82 rfl hl (by decide) rfl (fun ls hl => ?_)
              refine lv_iload hC.x hC.b dX12_mend_83 (lv_at hl 4 rfl) ?_
              refine lv_istore_n (lv' := [(2, .int x12), (3, .int x7), (0, .ref (ad 0)), (1, .int p0), (4, .int x7), (6, .int x12)]) hC.x hC.b dX12_mend_85 rfl hl (by decide) rfl (fun ls hl => ?_)
              exact hj14 x12 x7 H locs ls h hH (lv_sub hl [2, 3, 0, 1, 4] rfl)
            clear ej15
            refine b_if_lt (tgt := 80) hC dX12_mend_68 (by decide) h (fun h => ?_) (fun h => ?_)
            · exact hj15  H locs ls h hH (lv_sub hl [2, 3, 6, 0] rfl)
            · refine lv_iload hC.x hC.b dX12_mend_71 (lv_at hl 0 rfl) ?_
              refine lv_iload_n hC.x hC.b dX12_mend_73 rfl (lv_at hl 4 rfl) ?_
              refine b_ic_lt (tgt := 80) hC dX12_mend_74 (by decide) h (fun h => ?_) (fun h => ?_)
              · exact hj15  H locs ls h hH (lv_sub hl [2, 3, 6, 0] rfl)
              · refine lv_goto (tgt := 86) hC.x hC.b dX12_mend_77 (by decide) ?_
                exact hj14 x5 x6 H locs ls h hH (lv_sub hl [2, 3, 4, 5, 6] rfl)
    exact hl4 _ x3 (-5 : Int32) (0 : Int32) m2 H locs ls h hH (lv_sub hl [3, 4, 2, 1, 0] rfl)
  · refine lv_iconst (v := -1) hC.x hC.b dX12_mend_8 rfl ?_
    rw [hQ]
    exact e_i hC hr hH h dX12_mend_9

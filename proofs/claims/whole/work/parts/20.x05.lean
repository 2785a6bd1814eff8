def s_X2_fitsSeen_2 (L : List Nat) (p0 : Nat) (self1 : Int32 → gMem → Option (Int32 × gMem)) (x2 : Int32) (m3 : gMem) : Option (Int32 × gMem) := if (gI m3 10 12) ≤ x2 then (some ((1 : Int32), m3)) else if (6 : Int32) ≤ x2 then (some ((1 : Int32), m3)) else if okI x2 6 then lt1 ((gI m3 10 4) + (gI m3 14 (ix x2))) fun (x4 : Int32) => if okI x2 6 then bd2 (f_X2_noise L m3 p0 (gI m3 13 (ix x2)) x4) fun (x6 : Int32) (m5 : gMem) => bd2 (f_X2_depth L m5 x4) fun (x8 : Int32) (m7 : gMem) => jn ((fun (x10 : Int32) => if okI x2 6 then jn ((fun (x12 : Int32) => if x10 = x12 then (lt1 (x2 + (1 : Int32)) fun (x13 : Int32) => (self1 x13 m7)) else some ((0 : Int32), m7)) : Int32 → Option (Int32 × gMem)) fun j11 => if (gI m7 15 (ix x2)) = (1 : Int32) then ((j11 (1 : Int32))) else (j11 (0 : Int32)) else none) : Int32 → Option (Int32 × gMem)) fun j9 => if x6 ≤ x8 then ((j9 (0 : Int32))) else (j9 (1 : Int32)) else none else none
def f_X2_fitsSeen (L : List Nat) (mem : gMem) (p0 : Nat) : Option (Int32 × gMem) := lq2 (s_X2_fitsSeen_2 L p0) 1000 (0 : Int32) mem
set_option maxRecDepth 100000 in
set_option maxHeartbeats 4000000 in
theorem c_X2_fitsSeen {l : Launch} {E : State → Prop} {D : va_G} {cy : Nat → ClassId} {ad : Nat → Nat} {L : List Nat} {mem : gMem} {p0 : Nat} {rv : Int32} {memz : gMem} (hk : gOk ad L) (hL : ∀ o ∈ LX0, o ∈ L) (hE : gEok ad L E) (hp0 : wok L p0) (h : f_X2_fitsSeen L mem p0 = some (rv, memz)) : gMet l yX2_fitsSeen cX2_fitsSeen 5 (some .boolean) 5 126 E D cy shX ad L [.ref (ad 10), .ref (ad p0)] mem memz (some (.int rv)) := by
  refine g_go (own := RX2) (by decide +kernel) rfl hE (Nat.le_of_ble_eq_true rfl) ?_
  intro p e s m args below meth c R Q hargs hR hQ hEs hC hr hX H locs ls hH hl
  have hF := gF_of hk
  have hl : lv_has ls 5 [(0, .ref (ad 10)), (1, .ref (ad p0))] := hl
  refine lv_iconst (v := 0) hC.x hC.b dX2_fitsSeen_0 rfl ?_
  refine lv_istore_n (lv' := [(2, .int (0 : Int32)), (0, .ref (ad 10)), (1, .ref (ad p0))]) hC.x hC.b dX2_fitsSeen_1 rfl hl (by decide) rfl (fun ls hl => ?_)
  have hl1 : ∀ (n : Nat) (x2 : Int32) (m3 : gMem) (H : Heap) (locs : List Loc) (ls : Array Slot), lq2 (s_X2_fitsSeen_2 L p0) n x2 m3 = some (rv, memz) → gH D cy shX ad L (gA ad L) s.heap m3 H locs → lv_has ls 5 [(0, .ref (ad 10)), (1, .ref (ad p0)), (2, .int x2)] → W p l e R s m args below meth c H locs 0 0 Q (F0 m 2 ls []) := by
    intro n
    induction n with
    | zero => intro x2 m3 H locs ls h _ _; exact lq2_0 h
    | succ n ih1 =>
      intro x2 m3 H locs ls h hH hl
      obtain ⟨self1, es1, h⟩ := lq2_s h
      refine lv_iload_n hC.x hC.b dX2_fitsSeen_2 rfl (lv_at hl 2 rfl) ?_
      refine lv_aload_n hC.x hC.b dX2_fitsSeen_3 rfl (lv_at hl 0 rfl) ?_
      refine r_geti hC hH fl_X2_62_2 (hL _ mX10) sX10 rfl dX2_fitsSeen_4 ?_
      refine b_ic_ge (tgt := 83) hC dX2_fitsSeen_7 (by decide) h (fun h => ?_) (fun h => ?_)
      · refine lv_iconst (v := 1) hC.x hC.b dX2_fitsSeen_83 rfl ?_
        rw [hQ]
        exact e_n hC hr rfl hH h dX2_fitsSeen_84
      · refine lv_iload_n hC.x hC.b dX2_fitsSeen_10 rfl (lv_at hl 2 rfl) ?_
        refine lv_bipush (v := 6) hC.x hC.b dX2_fitsSeen_11 rfl ?_
        refine b_ic_ge (tgt := 83) hC dX2_fitsSeen_13 (by decide) h (fun h => ?_) (fun h => ?_)
        · refine lv_iconst (v := 1) hC.x hC.b dX2_fitsSeen_83 rfl ?_
          rw [hQ]
          exact e_n hC hr rfl hH h dX2_fitsSeen_84
        · refine lv_aload_n hC.x hC.b dX2_fitsSeen_16 rfl (lv_at hl 0 rfl) ?_
          refine r_geti hC hH fl_X2_49_2 (hL _ mX10) sX10 rfl dX2_fitsSeen_17 ?_
          refine lv_aload_n hC.x hC.b dX2_fitsSeen_20 rfl (lv_at hl 0 rfl) ?_
          refine r_getc (z := 14) hC hH fl_X2_25_2 (hL _ mX10) sX10 rfl dX2_fitsSeen_21 ?_
          refine lv_iload_n hC.x hC.b dX2_fitsSeen_24 rfl (lv_at hl 2 rfl) ?_
          refine r_iald hC hH (hL _ mX14) sX14 h dX2_fitsSeen_25 (fun h => ?_)
          refine lv_iadd hC.x hC.b dX2_fitsSeen_26 ?_
          refine n_i h (fun x4 h => ?_)
          refine lv_istore_n (lv' := [(3, .int x4), (0, .ref (ad 10)), (1, .ref (ad p0)), (2, .int x2)]) hC.x hC.b dX2_fitsSeen_27 rfl hl (by decide) rfl (fun ls hl => ?_)
          refine lv_aload_n hC.x hC.b dX2_fitsSeen_28 rfl (lv_at hl 1 rfl) ?_
          refine lv_aload_n hC.x hC.b dX2_fitsSeen_29 rfl (lv_at hl 2 rfl) ?_
          refine lv_aload_n hC.x hC.b dX2_fitsSeen_30 rfl (lv_at hl 1 rfl) ?_
          refine r_getc (z := 13) hC hH fl_X2_22_2 (hL _ mX10) sX10 rfl dX2_fitsSeen_31 ?_
          refine lv_iload_n hC.x hC.b dX2_fitsSeen_34 rfl (lv_at hl 3 rfl) ?_
          refine r_iald hC hH (hL _ mX13) sX13 h dX2_fitsSeen_35 (fun h => ?_)
          refine lv_iload_n hC.x hC.b dX2_fitsSeen_36 rfl (lv_at hl 0 rfl) ?_
          obtain ⟨x6, m5, hf6, h⟩ := bd2_e h
          refine c_V1 (As := [.ref (ad p0), .int (gI m3 13 (ix x2)), .int x4]) (rest := []) (o := 10) (q := (RX2, TX2, 17)) hC hX hE.2.1 hF hH (c_X2_noise (l := l) hk hL hE hp0 hf6) kw988 kw297 kw298 kw15 kw299 a_X2_noise.1 a_X2_noise.2 (hL _ mX10) sX10 rfl rfl hl.1 (rmk hR (by decide) (by decide)) (Nat.le_of_ble_eq_true rfl) dX2_fitsSeen_37 (fun H locs hH => ?_)
          refine lv_aload_n hC.x hC.b dX2_fitsSeen_40 rfl (lv_at hl 1 rfl) ?_
          refine lv_iload_n hC.x hC.b dX2_fitsSeen_41 rfl (lv_at hl 0 rfl) ?_
          obtain ⟨x8, m7, hf8, h⟩ := bd2_e h
          refine c_V1 (As := [.int x4]) (rest := [.int x6]) (o := 10) (q := (RX2, TX2, 17)) hC hX hE.2.1 hF hH (c_X2_depth (l := l) hk hL hE hf8) kw989 kw696 kw697 kw15 kw698 a_X2_depth.1 a_X2_depth.2 (hL _ mX10) sX10 rfl rfl hl.1 (rmk hR (by decide) (by decide)) (Nat.le_of_ble_eq_true rfl) dX2_fitsSeen_42 (fun H locs hH => ?_)
          obtain ⟨j9, ej9, h⟩ := jn_e h
          have hj9 : ∀ (x10 : Int32) (H : Heap) (locs : List Loc) (ls : Array Slot), (j9 x10) = some (rv, memz) → gH D cy shX ad L (gA ad L) s.heap m7 H locs → lv_has ls 5 [(0, .ref (ad 10)), (1, .ref (ad p0)), (2, .int x2)] → W p l e R s m args below meth c H locs 0 0 Q (F0 m 53 ls [.int x10]) := by
            intro x10 H locs ls h hH hl
            have h := ap1 ej9 h
            refine lv_istore (lv' := [(4, .int x10), (0, .ref (ad 10)), (1, .ref (ad p0)), (2, .int x2)]) hC.x hC.b dX2_fitsSeen_53 hl (by decide) rfl (fun ls hl => ?_)
            refine lv_iload hC.x hC.b dX2_fitsSeen_55 (lv_at hl 0 rfl) ?_
            refine lv_aload_n hC.x hC.b dX2_fitsSeen_57 rfl (lv_at hl 1 rfl) ?_
            refine r_getc (z := 15) hC hH fl_X2_28_2 (hL _ mX10) sX10 rfl dX2_fitsSeen_58 ?_
            refine lv_iload_n hC.x hC.b dX2_fitsSeen_61 rfl (lv_at hl 3 rfl) ?_
            refine r_iald hC hH (hL _ mX15) sX15 h dX2_fitsSeen_62 (fun h => ?_)
            refine lv_iconst (v := 1) hC.x hC.b dX2_fitsSeen_63 rfl ?_
            obtain ⟨j11, ej11, h⟩ := jn_e h
            have hj11 : ∀ (x12 : Int32) (H : Heap) (locs : List Loc) (ls : Array Slot), (j11 x12) = some (rv, memz) → gH D cy shX ad L (gA ad L) s.heap m7 H locs → lv_has ls 5 [(0, .ref (ad 10)), (1, .ref (ad p0)), (2, .int x2)] → W p l e R s m args below meth c H locs 0 0 Q (F0 m 72 ls [.int x12, .int x10]) := by
              intro x12 H locs ls h hH hl
              have h := ap1 ej11 h
              refine b_ic_eq (tgt := 77) hC dX2_fitsSeen_72 (by decide) h (fun h => ?_) (fun h => ?_)
              · refine i_inc (lv' := fun x13 => [(2, .int x13), (0, .ref (ad 10)), (1, .ref (ad p0))]) hC dX2_fitsSeen_77 hl (k := 2) rfl (by decide) (fun _ => rfl) (z := 1) rfl h (fun x13 ls h hl => ?_)
                refine lv_goto (tgt := 2) hC.x hC.b dX2_fitsSeen_80 (by decide) ?_
                exact ih1 x13 m7 H locs ls (ap2 es1 h) hH (lv_sub hl [1, 2, 0] rfl)
              · refine lv_iconst (v := 0) hC.x hC.b dX2_fitsSeen_75 rfl ?_
                rw [hQ]
                exact e_n hC hr rfl hH h dX2_fitsSeen_76
            clear ej11
            refine b_ic_ne (tgt := 71) hC dX2_fitsSeen_64 (by decide) h (fun h => ?_) (fun h => ?_)
            · refine lv_iconst (v := 0) hC.x hC.b dX2_fitsSeen_71 rfl ?_
              exact hj11 (0 : Int32) H locs ls h hH (lv_sub hl [1, 2, 3] rfl)
            · refine lv_iconst (v := 1) hC.x hC.b dX2_fitsSeen_67 rfl ?_
              refine lv_goto (tgt := 72) hC.x hC.b dX2_fitsSeen_68 (by decide) ?_
              exact hj11 (1 : Int32) H locs ls h hH (lv_sub hl [1, 2, 3] rfl)
          clear ej9
          refine b_ic_le (tgt := 52) hC dX2_fitsSeen_45 (by decide) h (fun h => ?_) (fun h => ?_)
          · refine lv_iconst (v := 0) hC.x hC.b dX2_fitsSeen_52 rfl ?_
            exact hj9 (0 : Int32) H locs ls h hH (lv_sub hl [1, 2, 3] rfl)
          · refine lv_iconst (v := 1) hC.x hC.b dX2_fitsSeen_48 rfl ?_
            refine lv_goto (tgt := 53) hC.x hC.b dX2_fitsSeen_49 (by decide) ?_
            exact hj9 (1 : Int32) H locs ls h hH (lv_sub hl [1, 2, 3] rfl)
  exact hl1 _ (0 : Int32) mem H locs ls h hH (lv_sub hl [1, 2, 0] rfl)
theorem a_X4_skipAll : noMH yX4_skipAll.cls ∧ arity yX4_skipAll.desc 1 := by decide +kernel
def f_X4_readWord (L : List Nat) (mem : gMem) : Option (Int32 × gMem) := bd (f_X4_sign L mem) fun (x1 : Int32) => if x1 = 99 then (bd2 (f_X4_skipAll1 L mem) fun (x3 : Int32) (m2 : gMem) => if x3 = 0 then (some ((-1 : Int32), m2)) else some ((1 : Int32), m2)) else if x1 = 100 then (bd2 (f_X4_skipAll0 L mem) fun (x5 : Int32) (m4 : gMem) => if x5 = 0 then (some ((-1 : Int32), m4)) else some ((0 : Int32), m4)) else if x1 = 104 then (bd2 (f_X4_skipAll2 L mem) fun (x7 : Int32) (m6 : gMem) => if x7 = 0 then (some ((-1 : Int32), m6)) else some ((2 : Int32), m6)) else some ((-1 : Int32), mem)
set_option maxRecDepth 100000 in
set_option maxHeartbeats 4000000 in
theorem c_X4_readWord {l : Launch} {E : State → Prop} {D : va_G} {cy : Nat → ClassId} {ad : Nat → Nat} {L : List Nat} {adK adV : Nat → Nat} {mem : gMem} {rv : Int32} {memz : gMem} (hk : gOk ad L) (hL : ∀ o ∈ LX0, o ∈ L) (hE : gEok ad L E) (hSs : ∀ s : State, E s → gS (gA ad L) adK adV s) (h : f_X4_readWord L mem = some (rv, memz)) : gMet l yX4_readWord cX4_readWord 1 (some .int) 5 108 E D cy shX ad L [.ref (ad 30)] mem memz (some (.int rv)) := by
  refine g_go (own := RX4) (by decide +kernel) rfl hE (Nat.le_of_ble_eq_true rfl) ?_
  intro p e s m args below meth c R Q hargs hR hQ hEs hC hr hX H locs ls hH hl
  have hF := gF_of hk
  have hl : lv_has ls 1 [(0, .ref (ad 30))] := hl
  refine lv_aload_n hC.x hC.b dX4_readWord_0 rfl (lv_at hl 0 rfl) ?_
  obtain ⟨x1, hf1, h⟩ := bd_e h
  refine c_V1 (As := []) (rest := []) (o := 30) (q := (RX4, TX4, 4)) hC hX hE.2.1 hF hH (c_X4_sign (l := l) hk hL hE hf1) kw469 kw470 kw471 kw24 kw472 a_X4_sign.1 a_X4_sign.2 (hL _ mX30) sX30 rfl rfl hl.1 (rmk hR (by decide) (by decide)) (Nat.le_of_ble_eq_true rfl) dX4_readWord_1 (fun H locs hH => ?_)
  by_cases hx0 : x1 = 99
  · have h := ifp hx0 h
    refine lv_lookup (off := 51) (tgt := 55) hC.x hC.b dX4_readWord_4 (by decide) (by rw [hx0]; rfl) (by decide) ?_
    refine lv_aload_n hC.x hC.b dX4_readWord_55 rfl (lv_at hl 0 rfl) ?_
    refine s_ldc hC (hSs _ hEs) (i := 1) (by decide) rfl dX4_readWord_56 ?_
    obtain ⟨x3, m2, hf3, h⟩ := bd2_e h
    refine c_V1 (As := [.ref (adK 1)]) (rest := []) (o := 30) (q := (RX4, TX4, 4)) hC hX hE.2.1 hF hH (c_X4_skipAll1 (l := l) hk hL hE hSs hf3) kw473 kw474 kw475 kw24 kw476 a_X4_skipAll.1 a_X4_skipAll.2 (hL _ mX30) sX30 rfl rfl hl.1 (rmk hR (by decide) (by decide)) (Nat.le_of_ble_eq_true rfl) dX4_readWord_58 (fun H locs hH => ?_)
    refine b_if_eq (tgt := 68) hC dX4_readWord_61 (by decide) h (fun h => ?_) (fun h => ?_)
    · refine lv_iconst (v := -1) hC.x hC.b dX4_readWord_68 rfl ?_
      rw [hQ]
      exact e_i hC hr hH h dX4_readWord_69
    · refine lv_iconst (v := 1) hC.x hC.b dX4_readWord_64 rfl ?_
      refine lv_goto (tgt := 69) hC.x hC.b dX4_readWord_65 (by decide) ?_
      rw [hQ]
      exact e_i hC hr hH h dX4_readWord_69
  have h := ifn hx0 h
  by_cases hx1 : x1 = 100
  · have h := ifp hx1 h
    refine lv_lookup (off := 36) (tgt := 40) hC.x hC.b dX4_readWord_4 (by decide) (by rw [hx1]; rfl) (by decide) ?_
    refine lv_aload_n hC.x hC.b dX4_readWord_40 rfl (lv_at hl 0 rfl) ?_
    refine s_ldc hC (hSs _ hEs) (i := 0) (by decide) rfl dX4_readWord_41 ?_
    obtain ⟨x5, m4, hf5, h⟩ := bd2_e h
    refine c_V1 (As := [.ref (adK 0)]) (rest := []) (o := 30) (q := (RX4, TX4, 4)) hC hX hE.2.1 hF hH (c_X4_skipAll0 (l := l) hk hL hE hSs hf5) kw473 kw474 kw475 kw24 kw476 a_X4_skipAll.1 a_X4_skipAll.2 (hL _ mX30) sX30 rfl rfl hl.1 (rmk hR (by decide) (by decide)) (Nat.le_of_ble_eq_true rfl) dX4_readWord_43 (fun H locs hH => ?_)
    refine b_if_eq (tgt := 53) hC dX4_readWord_46 (by decide) h (fun h => ?_) (fun h => ?_)
    · refine lv_iconst (v := -1) hC.x hC.b dX4_readWord_53 rfl ?_
      rw [hQ]
      exact e_i hC hr hH h dX4_readWord_54
    · refine lv_iconst (v := 0) hC.x hC.b dX4_readWord_49 rfl ?_
      refine lv_goto (tgt := 54) hC.x hC.b dX4_readWord_50 (by decide) ?_
      rw [hQ]
      exact e_i hC hr hH h dX4_readWord_54
  have h := ifn hx1 h
  by_cases hx2 : x1 = 104
  · have h := ifp hx2 h
    refine lv_lookup (off := 66) (tgt := 70) hC.x hC.b dX4_readWord_4 (by decide) (by rw [hx2]; rfl) (by decide) ?_
    refine lv_aload_n hC.x hC.b dX4_readWord_70 rfl (lv_at hl 0 rfl) ?_
    refine s_ldc hC (hSs _ hEs) (i := 2) (by decide) rfl dX4_readWord_71 ?_
    obtain ⟨x7, m6, hf7, h⟩ := bd2_e h
    refine c_V1 (As := [.ref (adK 2)]) (rest := []) (o := 30) (q := (RX4, TX4, 4)) hC hX hE.2.1 hF hH (c_X4_skipAll2 (l := l) hk hL hE hSs hf7) kw473 kw474 kw475 kw24 kw476 a_X4_skipAll.1 a_X4_skipAll.2 (hL _ mX30) sX30 rfl rfl hl.1 (rmk hR (by decide) (by decide)) (Nat.le_of_ble_eq_true rfl) dX4_readWord_73 (fun H locs hH => ?_)
    refine b_if_eq (tgt := 83) hC dX4_readWord_76 (by decide) h (fun h => ?_) (fun h => ?_)
    · refine lv_iconst (v := -1) hC.x hC.b dX4_readWord_83 rfl ?_
      rw [hQ]
      exact e_i hC hr hH h dX4_readWord_84
    · refine lv_iconst (v := 2) hC.x hC.b dX4_readWord_79 rfl ?_
      refine lv_goto (tgt := 84) hC.x hC.b dX4_readWord_80 (by decide) ?_
      rw [hQ]
      exact e_i hC hr hH h dX4_readWord_84
  have h := ifn hx2 h
  refine lv_lookup (off := 81) (tgt := 85) hC.x hC.b dX4_readWord_4 (by decide) (by have a0 := ne_ti (v := 99) (z := 99) rfl hx0; have a1 := ne_ti (v := 100) (z := 100) rfl hx1; have a2 := ne_ti (v := 104) (z := 104) rfl hx2; simp [Op.lookupswitch.offset, Ne.symm a0, a0, Ne.symm a1, a1, Ne.symm a2, a2]) (by decide) ?_
  refine lv_iconst (v := -1) hC.x hC.b dX4_readWord_85 rfl ?_
  rw [hQ]
  exact e_i hC hr hH h dX4_readWord_86
theorem a_X4_placeOfSign : noMH yX4_placeOfSign.cls ∧ arity yX4_placeOfSign.desc 1 := by decide +kernel
theorem a_X4_readNumber : noMH yX4_readNumber.cls ∧ arity yX4_readNumber.desc 0 := by decide +kernel
theorem fl_X4_22_4 : gFl RX4 22 4 3 := ⟨RX4, TX4, 4, "OnTiptoe$Reader", rfl, inW4, by decide, kw459, Or.inl rfl⟩
theorem a_X3_addCode : noMH yX3_addCode.cls ∧ arity yX3_addCode.desc 1 := by decide +kernel
def f_X4_readTest (L : List Nat) (mem : gMem) : Option (Int32 × gMem) := bd (f_X4_placeOfSign3 L mem) fun (x1 : Int32) => if 0 ≤ x1 then (lt1 (gsI mem 30 2 ((gI mem 30 2) + (1 : Int32))) fun (m2 : gMem) => bd (f_X4_placeOfSign4 L m2) fun (x3 : Int32) => if 0 ≤ x3 then (lt1 (gsI m2 30 2 ((gI m2 30 2) + (1 : Int32))) fun (m4 : gMem) => bd2 (f_X4_readNumber L m4) fun (x6 : Int32) (m5 : gMem) => if 0 ≤ x6 then (oc (gR m5 30 3) none fun g7 => if isN g7 then bd (f_X3_addCode L m5 g7 (((x1 * (300 : Int32)) + (x3 * (100 : Int32))) + x6)) fun (m8 : gMem) => some ((1 : Int32), m8) else none) else some ((0 : Int32), m5)) else some ((0 : Int32), m2)) else some ((0 : Int32), mem)
set_option maxRecDepth 100000 in
set_option maxHeartbeats 4000000 in
theorem c_X4_readTest {l : Launch} {E : State → Prop} {D : va_G} {cy : Nat → ClassId} {ad : Nat → Nat} {L : List Nat} {adK adV : Nat → Nat} {mem : gMem} {rv : Int32} {memz : gMem} (hk : gOk ad L) (hL : ∀ o ∈ LX0, o ∈ L) (hE : gEok ad L E) (hSs : ∀ s : State, E s → gS (gA ad L) adK adV s) (h : f_X4_readTest L mem = some (rv, memz)) : gMet l yX4_readTest cX4_readTest 4 (some .boolean) 5 112 E D cy shX ad L [.ref (ad 30)] mem memz (some (.int rv)) := by
  refine g_go (own := RX4) (by decide +kernel) rfl hE (Nat.le_of_ble_eq_true rfl) ?_
  intro p e s m args below meth c R Q hargs hR hQ hEs hC hr hX H locs ls hH hl
  have hF := gF_of hk
  have hl : lv_has ls 4 [(0, .ref (ad 30))] := hl
  refine lv_aload_n hC.x hC.b dX4_readTest_0 rfl (lv_at hl 0 rfl) ?_
  refine s_ldc hC (hSs _ hEs) (i := 3) (by decide) rfl dX4_readTest_1 ?_
  obtain ⟨x1, hf1, h⟩ := bd_e h
  refine c_V1 (As := [.ref (adK 3)]) (rest := []) (o := 30) (q := (RX4, TX4, 4)) hC hX hE.2.1 hF hH (c_X4_placeOfSign3 (l := l) hk hL hE hSs hf1) kw561 kw562 kw563 kw24 kw564 a_X4_placeOfSign.1 a_X4_placeOfSign.2 (hL _ mX30) sX30 rfl rfl hl.1 (rmk hR (by decide) (by decide)) (Nat.le_of_ble_eq_true rfl) dX4_readTest_3 (fun H locs hH => ?_)
  refine lv_istore_n (lv' := [(1, .int x1), (0, .ref (ad 30))]) hC.x hC.b dX4_readTest_6 rfl hl (by decide) rfl (fun ls hl => ?_)
  refine lv_iload_n hC.x hC.b dX4_readTest_7 rfl (lv_at hl 0 rfl) ?_
  refine b_if_ge (tgt := 13) hC dX4_readTest_8 (by decide) h (fun h => ?_) (fun h => ?_)
  · refine lv_aload_n hC.x hC.b dX4_readTest_13 rfl (lv_at hl 1 rfl) ?_
    refine lv_dup hC.x hC.b dX4_readTest_14 rfl ?_
    refine r_geti hC hH fl_X4_19_4 (hL _ mX30) sX30 rfl dX4_readTest_15 ?_
    refine lv_iconst (v := 1) hC.x hC.b dX4_readTest_18 rfl ?_
    refine lv_iadd hC.x hC.b dX4_readTest_19 ?_
    refine r_puti hC hF hH pl_X4_19_4 (hL _ mX30) sX30 rfl h dX4_readTest_20 (fun m2 H locs h hH => ?_)
    refine lv_aload_n hC.x hC.b dX4_readTest_23 rfl (lv_at hl 1 rfl) ?_
    refine s_ldc hC (hSs _ hEs) (i := 4) (by decide) rfl dX4_readTest_24 ?_
    obtain ⟨x3, hf3, h⟩ := bd_e h
    refine c_V1 (As := [.ref (adK 4)]) (rest := []) (o := 30) (q := (RX4, TX4, 4)) hC hX hE.2.1 hF hH (c_X4_placeOfSign4 (l := l) hk hL hE hSs hf3) kw561 kw562 kw563 kw24 kw564 a_X4_placeOfSign.1 a_X4_placeOfSign.2 (hL _ mX30) sX30 rfl rfl hl.1 (rmk hR (by decide) (by decide)) (Nat.le_of_ble_eq_true rfl) dX4_readTest_26 (fun H locs hH => ?_)
    refine lv_istore_n (lv' := [(2, .int x3), (1, .int x1), (0, .ref (ad 30))]) hC.x hC.b dX4_readTest_29 rfl hl (by decide) rfl (fun ls hl => ?_)
    refine lv_iload_n hC.x hC.b dX4_readTest_30 rfl (lv_at hl 0 rfl) ?_
    refine b_if_ge (tgt := 36) hC dX4_readTest_31 (by decide) h (fun h => ?_) (fun h => ?_)
    · refine lv_aload_n hC.x hC.b dX4_readTest_36 rfl (lv_at hl 2 rfl) ?_
      refine lv_dup hC.x hC.b dX4_readTest_37 rfl ?_
      refine r_geti hC hH fl_X4_19_4 (hL _ mX30) sX30 rfl dX4_readTest_38 ?_
      refine lv_iconst (v := 1) hC.x hC.b dX4_readTest_41 rfl ?_
      refine lv_iadd hC.x hC.b dX4_readTest_42 ?_
      refine r_puti hC hF hH pl_X4_19_4 (hL _ mX30) sX30 rfl h dX4_readTest_43 (fun m4 H locs h hH => ?_)
      refine lv_aload_n hC.x hC.b dX4_readTest_46 rfl (lv_at hl 2 rfl) ?_
      obtain ⟨x6, m5, hf6, h⟩ := bd2_e h
      refine c_V1 (As := []) (rest := []) (o := 30) (q := (RX4, TX4, 4)) hC hX hE.2.1 hF hH (c_X4_readNumber (l := l) hk hL hE hf6) kw530 kw531 kw532 kw24 kw533 a_X4_readNumber.1 a_X4_readNumber.2 (hL _ mX30) sX30 rfl rfl hl.1 (rmk hR (by decide) (by decide)) (Nat.le_of_ble_eq_true rfl) dX4_readTest_47 (fun H locs hH => ?_)
      refine lv_istore_n (lv' := [(3, .int x6), (2, .int x3), (1, .int x1), (0, .ref (ad 30))]) hC.x hC.b dX4_readTest_50 rfl hl (by decide) rfl (fun ls hl => ?_)
      refine lv_iload_n hC.x hC.b dX4_readTest_51 rfl (lv_at hl 0 rfl) ?_
      refine b_if_ge (tgt := 57) hC dX4_readTest_52 (by decide) h (fun h => ?_) (fun h => ?_)
      · refine lv_aload_n hC.x hC.b dX4_readTest_57 rfl (lv_at hl 3 rfl) ?_
        refine r_getr hC hH fl_X4_22_4 (hL _ mX30) sX30 rfl dX4_readTest_58 ?_
        refine d_top h (fun g7 hyg7 h => ?_)
        obtain ⟨hNg7, h⟩ := chk h
        refine lv_iload_n hC.x hC.b dX4_readTest_61 rfl (lv_at hl 2 rfl) ?_
        refine lv_sipush (v := 300) hC.x hC.b dX4_readTest_62 rfl ?_
        refine lv_imul hC.x hC.b dX4_readTest_65 ?_
        refine lv_iload_n hC.x hC.b dX4_readTest_66 rfl (lv_at hl 1 rfl) ?_
        refine lv_bipush (v := 100) hC.x hC.b dX4_readTest_67 rfl ?_
        refine lv_imul hC.x hC.b dX4_readTest_69 ?_
        refine lv_iadd hC.x hC.b dX4_readTest_70 ?_
        refine lv_iload_n hC.x hC.b dX4_readTest_71 rfl (lv_at hl 0 rfl) ?_
        refine lv_iadd hC.x hC.b dX4_readTest_72 ?_
        obtain ⟨m8, hf8, h⟩ := bd_e h
        refine c_V0 (As := [.int (((x1 * (300 : Int32)) + (x3 * (100 : Int32))) + x6)]) (rest := []) (o := g7) (q := (RX3, TX3, 6)) hC hX hE.2.1 hF hH (c_X3_addCode (l := l) hk hL hE hNg7 hf8) kw542 kw543 kw544 kw38 kw545 a_X3_addCode.1 a_X3_addCode.2 (hL _ (mN hNg7 (k := 0) (by decide))) (sN0 hNg7) rfl rfl hl.1 (rmk hR (by decide) (by decide)) (Nat.le_of_ble_eq_true rfl) dX4_readTest_73 (fun H locs hH => ?_)
        refine lv_iconst (v := 1) hC.x hC.b dX4_readTest_76 rfl ?_
        rw [hQ]
        exact e_n hC hr rfl hH h dX4_readTest_77
      · refine lv_iconst (v := 0) hC.x hC.b dX4_readTest_55 rfl ?_
        rw [hQ]
        exact e_n hC hr rfl hH h dX4_readTest_56
    · refine lv_iconst (v := 0) hC.x hC.b dX4_readTest_34 rfl ?_
      rw [hQ]
      exact e_n hC hr rfl hH h dX4_readTest_35
  · refine lv_iconst (v := 0) hC.x hC.b dX4_readTest_11 rfl ?_
    rw [hQ]
    exact e_n hC hr rfl hH h dX4_readTest_12
theorem a_X1_actGoes : noMH yX1_actGoes.cls ∧ arity yX1_actGoes.desc 1 := by decide +kernel
theorem u_X7_21 {p : Program} {l : Launch} {e : Env} {R : Room} {s : State} {m : MethodId} {args : Array Value} {below : List Frame} {meth : Method} {c : Code} {H : Heap} {locs : List Loc} {cells slots : Nat} {Q : State → Prop} {cc : ByteArray} {nL : Nat} {pc : Nat} {ls : Array Slot} {rest As : List Value} {D : va_G} {cy : Nat → ClassId} {ad : Nat → Nat} {L : List Nat} {A : Nat → Prop} {mem mem' : gMem} {E : State → Prop} {fr lo w : Nat} {v : Value} (hC : gC p s m args meth c cc nL RX7 D cy) (hX : gX A s E) (hB : eBl E) (hF : gF ad L A) (hH : gH D cy shX ad L A s.heap mem H locs) (hM : gMet l yX1_actGoes cX1_actGoes 2 (some .int) fr lo E D cy shX ad L (.ref (ad w) :: As) mem mem' (some v)) (hw : wok L w) (hk : wkd w = 4) (hn : As.length = 1) (hls : ls.size = nL) (hR : fr + 1 ≤ R.frames ∧ 8 + (2 + 11) + lo ≤ R.locals ∧ cells ≤ R.cells ∧ slots ≤ R.slots) (hW : (rest.map fun v => v.category).sum ≤ 8) (hdg : decode cc pc = .ok (.invokespecial 21, 3))
    (kk : ∀ (H1 : Heap) (locs1 : List Loc), gH D cy shX ad L A s.heap mem' H1 locs1 → W p l e R s m args below meth c H1 locs1 cells slots Q (F0 m (pc + 3) ls (v :: rest))) : W p l e R s m args below meth c H locs cells slots Q (F0 m pc ls (As.reverse ++ .ref (ad w) :: rest)) := by
  rcases hk with hk
  · exact c_SU1 (q := (RX7, TX7, 6)) hC hX hB hF hH hM kw1193 kw1194 kw358 kw204 kw1181 kw1180 (by decide +kernel) a_X1_actGoes.2 hw.2.2.2.1 (sWk hw hk) rfl hn hls hR hW hdg kk
def f_X7_actGoes (L : List Nat) (mem : gMem) (w0 : Nat) (p0 : Int32) : Option (Int32 × gMem) := bd (f_X9_begin L mem w0 (51 : Int32)) fun (m1 : gMem) => bd2 (f_X1_actGoes L m1 w0 (p0 + (1 : Int32))) fun (x3 : Int32) (m2 : gMem) => some (x3, m2)
set_option maxRecDepth 100000 in
set_option maxHeartbeats 4000000 in
theorem c_X7_actGoes {l : Launch} {E : State → Prop} {D : va_G} {cy : Nat → ClassId} {ad : Nat → Nat} {L : List Nat} {mem : gMem} {w0 : Nat} {p0 : Int32} {rv : Int32} {memz : gMem} (hk : gOk ad L) (hL : ∀ o ∈ LX0, o ∈ L) (hE : gEok ad L E) (hw0 : wok L w0) (hkd : wkd w0 = 4) (h : f_X7_actGoes L mem w0 p0 = some (rv, memz)) : gMet l yX7_actGoes cX7_actGoes 2 (some .int) 5 105 E D cy shX ad L [.ref (ad w0), .int p0] mem memz (some (.int rv)) := by
  refine g_go (own := RX7) (by decide +kernel) rfl hE (Nat.le_of_ble_eq_true rfl) ?_
  intro p e s m args below meth c R Q hargs hR hQ hEs hC hr hX H locs ls hH hl
  have hF := gF_of hk
  have hl : lv_has ls 2 [(0, .ref (ad w0)), (1, .int p0)] := hl
  refine lv_aload_n hC.x hC.b dX7_actGoes_0 rfl (lv_at hl 0 rfl) ?_
  refine lv_bipush (v := 51) hC.x hC.b dX7_actGoes_1 rfl ?_
  obtain ⟨m1, hf1, h⟩ := bd_e h
  refine v_X7_11_begin hC hX hk hL hE hF hH hw0 hkd hf1 hl.1 hR (by decide) (by decide) (Nat.le_of_ble_eq_true rfl) dX7_actGoes_3 (fun H locs hH => ?_)
  refine lv_aload_n hC.x hC.b dX7_actGoes_6 rfl (lv_at hl 0 rfl) ?_
  refine lv_iload_n hC.x hC.b dX7_actGoes_7 rfl (lv_at hl 1 rfl) ?_
  refine lv_iconst (v := 1) hC.x hC.b dX7_actGoes_8 rfl ?_
  refine lv_iadd hC.x hC.b dX7_actGoes_9 ?_
  obtain ⟨x3, m2, hf3, h⟩ := bd2_e h
  refine u_X7_21 (As := [.int (p0 + (1 : Int32))]) (rest := []) hC hX hE.2.1 hF hH (c_X1_actGoes (l := l) hk hL hE hw0 (by have := hkd; omega) hf3) hw0 hkd rfl hl.1 (rmk hR (by decide) (by decide)) (Nat.le_of_ble_eq_true rfl) dX7_actGoes_10 (fun H locs hH => ?_)
  rw [hQ]
  exact e_i hC hr hH h dX7_actGoes_13
theorem v_X10_21_stepMinutes {p : Program} {l : Launch} {e : Env} {R : Room} {s : State} {m : MethodId} {args : Array Value} {below : List Frame} {meth : Method} {c : Code} {H : Heap} {locs : List Loc} {Q : State → Prop} {cc : ByteArray} {nL : Nat} {pc : Nat} {ls : Array Slot} {rest : List Value} {D : va_G} {cy : Nat → ClassId} {ad : Nat → Nat} {L : List Nat} {mem : gMem} {E : State → Prop} {fr0 lo0 w : Nat} {rv : Int32} (hC : gC p s m args meth c cc nL RX10 D cy) (hX : gX (gA ad L) s E) (hk : gOk ad L) (hL : ∀ o ∈ LX0, o ∈ L) (hE : gEok ad L E) (hF : gF ad L (gA ad L)) (hH : gH D cy shX ad L (gA ad L) s.heap mem H locs) (hw : wok L w) (hf : d_stepMinutes L mem w  = some rv) (hls : ls.size = nL) (hR : R = gRm fr0 lo0) (h1 : 1 ≤ fr0) (h2 : 20 ≤ lo0) (hW : (rest.map fun v => v.category).sum ≤ 8) (hdg : decode cc pc = .ok (.invokevirtual 21, 3))
    (kk : ∀ (H1 : Heap) (locs1 : List Loc), gH D cy shX ad L (gA ad L) s.heap mem H1 locs1 → W p l e R s m args below meth c H1 locs1 0 0 Q (F0 m (pc + 3) ls (.int rv :: rest))) : W p l e R s m args below meth c H locs 0 0 Q (F0 m pc ls (.ref (ad w) :: rest)) := by
  have hk7 := hw.2.2.1
  unfold d_stepMinutes at hf
  by_cases hc : wkd w = 0
  · have hf := ifp hc hf
    exact c_U1 (As := []) (rest := rest) (o := w) (x := ⟨"OnTiptoe$Walker", "stepMinutes", "()I"⟩) (owner := "OnTiptoe$Walker") (b0 := cX9_stepMinutes) (m0 := 1) (r0 := (some .int)) (q := (RX9, TX9, 6)) hC hX hE.2.1 hF hH (c_X9_stepMinutes (l := l) (mem := mem) hk hL hE hw hf) kw805 kw726 kw739 kw221 kw729 kw728 kw728 kw729 (by decide +kernel) a_X9_stepMinutes.2 hw.2.2.2.1 (sWk hw hc) rfl rfl hls (rmk hR (by omega) (by omega)) hW hdg kk
  have hf := ifn hc hf
  have hz0 := hc
  clear hc
  by_cases hc : wkd w = 1
  · have hf := ifp hc hf
    exact c_U1 (As := []) (rest := rest) (o := w) (x := ⟨"OnTiptoe$Walker", "stepMinutes", "()I"⟩) (owner := "OnTiptoe$Walker") (b0 := cX9_stepMinutes) (m0 := 1) (r0 := (some .int)) (q := (RX1, TX1, 6)) hC hX hE.2.1 hF hH (c_X9_stepMinutes (l := l) (mem := mem) hk hL hE hw hf) kw805 kw726 kw730 kw221 kw729 kw728 kw728 kw729 (by decide +kernel) a_X9_stepMinutes.2 hw.2.2.2.1 (sWk hw hc) rfl rfl hls (rmk hR (by omega) (by omega)) hW hdg kk
  have hf := ifn hc hf
  have hz1 := hc
  clear hc
  by_cases hc : wkd w = 2
  · have hf := ifp hc hf
    exact c_U1 (As := []) (rest := rest) (o := w) (x := ⟨"OnTiptoe$Walker", "stepMinutes", "()I"⟩) (owner := "OnTiptoe$Walker") (b0 := cX9_stepMinutes) (m0 := 1) (r0 := (some .int)) (q := (RX6, TX6, 6)) hC hX hE.2.1 hF hH (c_X9_stepMinutes (l := l) (mem := mem) hk hL hE hw hf) kw805 kw726 kw735 kw221 kw729 kw728 kw728 kw729 (by decide +kernel) a_X9_stepMinutes.2 hw.2.2.2.1 (sWk hw hc) rfl rfl hls (rmk hR (by omega) (by omega)) hW hdg kk
  have hf := ifn hc hf
  have hz2 := hc
  clear hc
  by_cases hc : wkd w = 3
  · have hf := ifp hc hf
    exact c_U1 (As := []) (rest := rest) (o := w) (x := ⟨"OnTiptoe$Walker", "stepMinutes", "()I"⟩) (owner := "OnTiptoe$Walker") (b0 := cX9_stepMinutes) (m0 := 1) (r0 := (some .int)) (q := (RX5, TX5, 6)) hC hX hE.2.1 hF hH (c_X5_stepMinutes (l := l) (mem := mem) hk hL hE hw (by omega) hf) kw805 kw726 kw732 kw210 kw734 kw733 kw728 kw729 (by decide +kernel) a_X5_stepMinutes.2 hw.2.2.2.1 (sWk hw hc) rfl rfl hls (rmk hR (by omega) (by omega)) hW hdg kk
  have hf := ifn hc hf
  have hz3 := hc
  clear hc
  by_cases hc : wkd w = 4
  · have hf := ifp hc hf
    exact c_U1 (As := []) (rest := rest) (o := w) (x := ⟨"OnTiptoe$Walker", "stepMinutes", "()I"⟩) (owner := "OnTiptoe$Walker") (b0 := cX9_stepMinutes) (m0 := 1) (r0 := (some .int)) (q := (RX7, TX7, 6)) hC hX hE.2.1 hF hH (c_X9_stepMinutes (l := l) (mem := mem) hk hL hE hw hf) kw805 kw726 kw736 kw221 kw729 kw728 kw728 kw729 (by decide +kernel) a_X9_stepMinutes.2 hw.2.2.2.1 (sWk hw hc) rfl rfl hls (rmk hR (by omega) (by omega)) hW hdg kk
  have hf := ifn hc hf
  have hz4 := hc
  clear hc
  by_cases hc : wkd w = 5
  · have hf := ifp hc hf
    exact c_U1 (As := []) (rest := rest) (o := w) (x := ⟨"OnTiptoe$Walker", "stepMinutes", "()I"⟩) (owner := "OnTiptoe$Walker") (b0 := cX9_stepMinutes) (m0 := 1) (r0 := (some .int)) (q := (RX0, TX0, 6)) hC hX hE.2.1 hF hH (c_X9_stepMinutes (l := l) (mem := mem) hk hL hE hw hf) kw805 kw726 kw727 kw221 kw729 kw728 kw728 kw729 (by decide +kernel) a_X9_stepMinutes.2 hw.2.2.2.1 (sWk hw hc) rfl rfl hls (rmk hR (by omega) (by omega)) hW hdg kk
  have hf := ifn hc hf
  have hz5 := hc
  clear hc
  have hc : wkd w = 6 := by omega
  exact c_U1 (As := []) (rest := rest) (o := w) (x := ⟨"OnTiptoe$Walker", "stepMinutes", "()I"⟩) (owner := "OnTiptoe$Walker") (b0 := cX9_stepMinutes) (m0 := 1) (r0 := (some .int)) (q := (RX8, TX8, 8)) hC hX hE.2.1 hF hH (c_X5_stepMinutes (l := l) (mem := mem) hk hL hE hw (by omega) hf) kw805 kw726 kw737 kw210 kw734 kw733 kw728 kw729 (by decide +kernel) a_X5_stepMinutes.2 hw.2.2.2.1 (sWk hw hc) rfl rfl hls (rmk hR (by omega) (by omega)) hW hdg kk
theorem pl_X10_27_10 : gPl RX10 27 10 2 "I" := ⟨RX10, TX10, 10, tyX10, "OnTiptoe$Ways", rfl, inW10, tyX10_ok, nmX10, by decide, kw801, Or.inl rfl, rfl, rfl⟩
theorem fl_X10_30_2 : gFl RX10 30 2 2 := ⟨RX2, TX2, 17, "OnTiptoe$House", rfl, inW2, by decide, kw802, Or.inl rfl⟩
theorem pl_X10_35_10 : gPl RX10 35 10 3 "I" := ⟨RX10, TX10, 10, tyX10, "OnTiptoe$Ways", rfl, inW10, tyX10_ok, nmX10, by decide, kw803, Or.inl rfl, rfl, rfl⟩
theorem fl_X10_39_2 : gFl RX10 39 2 0 := ⟨RX2, TX2, 17, "OnTiptoe$House", rfl, inW2, by decide, kw804, Or.inl rfl⟩
def s_X10_learn_43 (L : List Nat) (p1 : Nat) (self13 : Int32 → gMem → Option gMem) (x14 : Int32) (m15 : gMem) : Option gMem := if (12 : Int32) ≤ x14 then (some m15) else if okI x14 12 then bd (f_X2_toyOn L m15 x14) fun (x16 : Int32) => bd (f_X10_learnBoard L m15 p1 x14 (gI m15 11 (ix x14)) x16) fun (m17 : gMem) => lt1 (x14 + (1 : Int32)) fun (x18 : Int32) => (self13 x18 m17) else none
def s_X10_learn_18 (j4 : gMem → Option gMem) (L : List Nat) (self5 : Int32 → gMem → Option gMem) (x6 : Int32) (m7 : gMem) : Option gMem := if (12 : Int32) ≤ x6 then ((j4 m7)) else bd2 (f_X2_depth L m7 x6) fun (x9 : Int32) (m8 : gMem) => if okI x6 12 then lt1 (gsI m8 34 (ix x6) x9) fun (m10 : gMem) => lt1 (x6 + (1 : Int32)) fun (x11 : Int32) => (self5 x11 m10) else none
def f_X10_learn (L : List Nat) (mem : gMem) (p1 : Nat) : Option gMem := bd (d_stepMinutes L mem p1) fun (x1 : Int32) => lt1 (gsI mem 32 2 x1) fun (m2 : gMem) => lt1 (gsI m2 32 3 (gI m2 10 2)) fun (m3 : gMem) => jn ((fun (m12 : gMem) => lq2 (s_X10_learn_43 L p1) 1000 (0 : Int32) m12) : gMem → Option gMem) fun j4 => lq2 (s_X10_learn_18 j4 L) 1000 (0 : Int32) m3
set_option maxRecDepth 100000 in
set_option maxHeartbeats 4000000 in
theorem c_X10_learn {l : Launch} {E : State → Prop} {D : va_G} {cy : Nat → ClassId} {ad : Nat → Nat} {L : List Nat} {mem : gMem} {p1 : Nat} {memz : gMem} (hk : gOk ad L) (hL : ∀ o ∈ LX0, o ∈ L) (hE : gEok ad L E) (hp1 : wok L p1) (h : f_X10_learn L mem p1 = some memz) : gMet l yX10_learn cX10_learn 4 none 5 129 E D cy shX ad L [.ref (ad 32), .ref (ad 10), .ref (ad p1)] mem memz none := by
  refine g_go (own := RX10) (by decide +kernel) rfl hE (Nat.le_of_ble_eq_true rfl) ?_
  intro p e s m args below meth c R Q hargs hR hQ hEs hC hr hX H locs ls hH hl
  have hF := gF_of hk
  have hl : lv_has ls 4 [(0, .ref (ad 32)), (1, .ref (ad 10)), (2, .ref (ad p1))] := hl
  refine lv_aload_n hC.x hC.b dX10_learn_0 rfl (lv_at hl 0 rfl) ?_
  refine lv_aload_n hC.x hC.b dX10_learn_1 rfl (lv_at hl 2 rfl) ?_
  obtain ⟨x1, hf1, h⟩ := bd_e h
  refine v_X10_21_stepMinutes hC hX hk hL hE hF hH hp1 hf1 hl.1 hR (by decide) (by decide) (Nat.le_of_ble_eq_true rfl) dX10_learn_2 (fun H locs hH => ?_)
  refine r_puti hC hF hH pl_X10_27_10 (hL _ mX32) sX32 rfl h dX10_learn_5 (fun m2 H locs h hH => ?_)
  refine lv_aload_n hC.x hC.b dX10_learn_8 rfl (lv_at hl 0 rfl) ?_
  refine lv_aload_n hC.x hC.b dX10_learn_9 rfl (lv_at hl 1 rfl) ?_
  refine r_geti hC hH fl_X10_30_2 (hL _ mX10) sX10 rfl dX10_learn_10 ?_
  refine r_puti hC hF hH pl_X10_35_10 (hL _ mX32) sX32 rfl h dX10_learn_13 (fun m3 H locs h hH => ?_)
  refine lv_iconst (v := 0) hC.x hC.b dX10_learn_16 rfl ?_
  refine lv_istore_n (lv' := [(3, .int (0 : Int32)), (0, .ref (ad 32)), (1, .ref (ad 10)), (2, .ref (ad p1))]) hC.x hC.b dX10_learn_17 rfl hl (by decide) rfl (fun ls hl => ?_)
  obtain ⟨j4, ej4, h⟩ := jn_e h
  have hj4 : ∀ (m12 : gMem) (H : Heap) (locs : List Loc) (ls : Array Slot), (j4 m12) = some memz → gH D cy shX ad L (gA ad L) s.heap m12 H locs → lv_has ls 4 [(0, .ref (ad 32)), (1, .ref (ad 10)), (2, .ref (ad p1))] → W p l e R s m args below meth c H locs 0 0 Q (F0 m 41 ls []) := by
    intro m12 H locs ls h hH hl
    have h := ap1 ej4 h
    refine lv_iconst (v := 0) hC.x hC.b dX10_learn_41 rfl ?_
    refine lv_istore_n (lv' := [(3, .int (0 : Int32)), (0, .ref (ad 32)), (1, .ref (ad 10)), (2, .ref (ad p1))]) hC.x hC.b dX10_learn_42 rfl hl (by decide) rfl (fun ls hl => ?_)
    have hl13 : ∀ (n : Nat) (x14 : Int32) (m15 : gMem) (H : Heap) (locs : List Loc) (ls : Array Slot), lq2 (s_X10_learn_43 L p1) n x14 m15 = some memz → gH D cy shX ad L (gA ad L) s.heap m15 H locs → lv_has ls 4 [(0, .ref (ad 32)), (1, .ref (ad 10)), (2, .ref (ad p1)), (3, .int x14)] → W p l e R s m args below meth c H locs 0 0 Q (F0 m 43 ls []) := by
      intro n
      induction n with
      | zero => intro x14 m15 H locs ls h _ _; exact lq2_0 h
      | succ n ih13 =>
        intro x14 m15 H locs ls h hH hl
        obtain ⟨self13, es13, h⟩ := lq2_s h
        refine lv_iload_n hC.x hC.b dX10_learn_43 rfl (lv_at hl 3 rfl) ?_
        refine lv_bipush (v := 12) hC.x hC.b dX10_learn_44 rfl ?_
        refine b_ic_ge (tgt := 73) hC dX10_learn_46 (by decide) h (fun h => ?_) (fun h => ?_)
        · rw [hQ]
          exact e_v hC hr hH h dX10_learn_73
        · refine lv_aload_n hC.x hC.b dX10_learn_49 rfl (lv_at hl 0 rfl) ?_
          refine lv_aload_n hC.x hC.b dX10_learn_50 rfl (lv_at hl 1 rfl) ?_
          refine lv_aload_n hC.x hC.b dX10_learn_51 rfl (lv_at hl 2 rfl) ?_
          refine lv_iload_n hC.x hC.b dX10_learn_52 rfl (lv_at hl 3 rfl) ?_
          refine lv_aload_n hC.x hC.b dX10_learn_53 rfl (lv_at hl 1 rfl) ?_
          refine r_getc (z := 11) hC hH fl_X10_39_2 (hL _ mX10) sX10 rfl dX10_learn_54 ?_
          refine lv_iload_n hC.x hC.b dX10_learn_57 rfl (lv_at hl 3 rfl) ?_
          refine r_iald hC hH (hL _ mX11) sX11 h dX10_learn_58 (fun h => ?_)
          refine lv_aload_n hC.x hC.b dX10_learn_59 rfl (lv_at hl 1 rfl) ?_
          refine lv_iload_n hC.x hC.b dX10_learn_60 rfl (lv_at hl 3 rfl) ?_
          obtain ⟨x16, hf16, h⟩ := bd_e h
          refine c_V1 (As := [.int x14]) (rest := [.int (gI m15 11 (ix x14)), .int x14, .ref (ad p1), .ref (ad 10), .ref (ad 32)]) (o := 10) (q := (RX2, TX2, 17)) hC hX hE.2.1 hF hH (c_X2_toyOn (l := l) hk hL hE hf16) kw808 kw177 kw178 kw15 kw179 a_X2_toyOn.1 a_X2_toyOn.2 (hL _ mX10) sX10 rfl rfl hl.1 (rmk hR (by decide) (by decide)) (Nat.le_of_ble_eq_true rfl) dX10_learn_61 (fun H locs hH => ?_)
          obtain ⟨m17, hf17, h⟩ := bd_e h
          refine c_V0 (As := [.ref (ad 10), .ref (ad p1), .int x14, .int (gI m15 11 (ix x14)), .int x16]) (rest := []) (o := 32) (q := (RX10, TX10, 10)) hC hX hE.2.1 hF hH (c_X10_learnBoard (l := l) hk hL hE hp1 hf17) kw809 kw810 kw811 kw28 kw812 a_X10_learnBoard.1 a_X10_learnBoard.2 (hL _ mX32) sX32 rfl rfl hl.1 (rmk hR (by decide) (by decide)) (Nat.le_of_ble_eq_true rfl) dX10_learn_64 (fun H locs hH => ?_)
          refine i_inc (lv' := fun x18 => [(3, .int x18), (0, .ref (ad 32)), (1, .ref (ad 10)), (2, .ref (ad p1))]) hC dX10_learn_67 hl (k := 3) rfl (by decide) (fun _ => rfl) (z := 1) rfl h (fun x18 ls h hl => ?_)
          refine lv_goto (tgt := 43) hC.x hC.b dX10_learn_70 (by decide) ?_
          exact ih13 x18 m17 H locs ls (ap2 es13 h) hH (lv_sub hl [1, 2, 3, 0] rfl)
    exact hl13 _ (0 : Int32) m12 H locs ls h hH (lv_sub hl [1, 2, 3, 0] rfl)
  clear ej4
  have hl5 : ∀ (n : Nat) (x6 : Int32) (m7 : gMem) (H : Heap) (locs : List Loc) (ls : Array Slot), lq2 (s_X10_learn_18 j4 L) n x6 m7 = some memz → gH D cy shX ad L (gA ad L) s.heap m7 H locs → lv_has ls 4 [(0, .ref (ad 32)), (1, .ref (ad 10)), (2, .ref (ad p1)), (3, .int x6)] → W p l e R s m args below meth c H locs 0 0 Q (F0 m 18 ls []) := by
    intro n
    induction n with
    | zero => intro x6 m7 H locs ls h _ _; exact lq2_0 h
    | succ n ih5 =>
      intro x6 m7 H locs ls h hH hl
      obtain ⟨self5, es5, h⟩ := lq2_s h
      refine lv_iload_n hC.x hC.b dX10_learn_18 rfl (lv_at hl 3 rfl) ?_
      refine lv_bipush (v := 12) hC.x hC.b dX10_learn_19 rfl ?_
      refine b_ic_ge (tgt := 41) hC dX10_learn_21 (by decide) h (fun h => ?_) (fun h => ?_)
      · exact hj4 m7 H locs ls h hH (lv_sub hl [0, 1, 2] rfl)
      · refine lv_aload_n hC.x hC.b dX10_learn_24 rfl (lv_at hl 0 rfl) ?_
        refine r_getc (z := 34) hC hH fl_X10_15_10 (hL _ mX32) sX32 rfl dX10_learn_25 ?_
        refine lv_iload_n hC.x hC.b dX10_learn_28 rfl (lv_at hl 3 rfl) ?_
        refine lv_aload_n hC.x hC.b dX10_learn_29 rfl (lv_at hl 1 rfl) ?_
        refine lv_iload_n hC.x hC.b dX10_learn_30 rfl (lv_at hl 3 rfl) ?_
        obtain ⟨x9, m8, hf9, h⟩ := bd2_e h
        refine c_V1 (As := [.int x6]) (rest := [.int x6, .ref (ad 34)]) (o := 10) (q := (RX2, TX2, 17)) hC hX hE.2.1 hF hH (c_X2_depth (l := l) hk hL hE hf9) kw807 kw696 kw697 kw15 kw698 a_X2_depth.1 a_X2_depth.2 (hL _ mX10) sX10 rfl rfl hl.1 (rmk hR (by decide) (by decide)) (Nat.le_of_ble_eq_true rfl) dX10_learn_31 (fun H locs hH => ?_)
        refine r_iast hC hF hH (hL _ mX34) sX34 h dX10_learn_34 (fun m10 H locs h hH => ?_)
        refine i_inc (lv' := fun x11 => [(3, .int x11), (0, .ref (ad 32)), (1, .ref (ad 10)), (2, .ref (ad p1))]) hC dX10_learn_35 hl (k := 3) rfl (by decide) (fun _ => rfl) (z := 1) rfl h (fun x11 ls h hl => ?_)
        refine lv_goto (tgt := 18) hC.x hC.b dX10_learn_38 (by decide) ?_
        exact ih5 x11 m10 H locs ls (ap2 es5 h) hH (lv_sub hl [1, 2, 3, 0] rfl)
  exact hl5 _ (0 : Int32) m3 H locs ls h hH (lv_sub hl [1, 2, 3, 0] rfl)
theorem a_X10_learn : noMH yX10_learn.cls ∧ arity yX10_learn.desc 2 := by decide +kernel
theorem a_X10_follow : noMH yX10_follow.cls ∧ arity yX10_follow.desc 4 := by decide +kernel
theorem fl_X11_174_10 : gFl RX11 174 10 5 := ⟨RX10, TX10, 10, "OnTiptoe$Ways", rfl, inW10, by decide, kw794, Or.inl rfl⟩
theorem fl_X11_177_10 : gFl RX11 177 10 6 := ⟨RX10, TX10, 10, "OnTiptoe$Ways", rfl, inW10, by decide, kw795, Or.inl rfl⟩
theorem fl_X11_180_10 : gFl RX11 180 10 7 := ⟨RX10, TX10, 10, "OnTiptoe$Ways", rfl, inW10, by decide, kw796, Or.inl rfl⟩
def f_X11_goes (L : List Nat) (mem : gMem) (p0 : Int32) (p1 : Int32) : Option (Int32 × gMem) := bd (f_X11_find L mem p0) fun (o1 : Option Nat) => oc o1 (some ((-1 : Int32), mem)) fun w2 => if wok L w2 then if p1 < 0 then (some ((-1 : Int32), mem)) else if p1 ≤ (3 : Int32) then (bd (f_X10_learn L mem w2) fun (m3 : gMem) => bd2 (f_X10_follow L m3 (gI m3 w2 2) (gI m3 10 4) (gI m3 10 5)) fun (x5 : Int32) (m4 : gMem) => if p1 = 0 then (some (x5, m4)) else if p1 = 1 then (some ((gI m4 32 5), m4)) else if p1 = 2 then (some ((gI m4 32 6), m4)) else some ((gI m4 32 7), m4)) else some ((-1 : Int32), mem) else none
set_option maxRecDepth 100000 in
set_option maxHeartbeats 4000000 in
theorem c_X11_goes {l : Launch} {E : State → Prop} {D : va_G} {cy : Nat → ClassId} {ad : Nat → Nat} {L : List Nat} {mem : gMem} {p0 : Int32} {p1 : Int32} {rv : Int32} {memz : gMem} (hk : gOk ad L) (hL : ∀ o ∈ LX0, o ∈ L) (hE : gEok ad L E)  (h : f_X11_goes L mem p0 p1 = some (rv, memz)) : gMet l yX11_goes cX11_goes 5 (some .int) 6 152 E D cy shX ad L [.ref (ad 0), .int p0, .int p1] mem memz (some (.int rv)) := by
  refine g_go (own := RX11) (by decide +kernel) rfl hE (Nat.le_of_ble_eq_true rfl) ?_
  intro p e s m args below meth c R Q hargs hR hQ hEs hC hr hX H locs ls hH hl
  have hF := gF_of hk
  have hl : lv_has ls 5 [(0, .ref (ad 0)), (1, .int p0), (2, .int p1)] := hl
  refine lv_aload_n hC.x hC.b dX11_goes_0 rfl (lv_at hl 0 rfl) ?_
  refine lv_iload_n hC.x hC.b dX11_goes_1 rfl (lv_at hl 1 rfl) ?_
  obtain ⟨o1, hf1, h⟩ := bd_e h
  refine c_V1 (As := [.int p0]) (rest := []) (o := 0) (q := (RX11, TX11, 13)) hC hX hE.2.1 hF hH (c_X11_find (l := l) hk hL hE hf1) kw267 kw268 kw269 kw2 kw270 a_X11_find.1 a_X11_find.2 (hL _ mX0) sX0 rfl rfl hl.1 (rmk hR (by decide) (by decide)) (Nat.le_of_ble_eq_true rfl) dX11_goes_2 (fun H locs hH => ?_)
  refine o_astn (lv' := [(3, va_rf (Option.map ad o1)), (0, .ref (ad 0)), (1, .int p0), (2, .int p1)]) hC dX11_goes_5 rfl hl (by decide) rfl (fun ls hl => ?_)
  refine o_aldn hC dX11_goes_6 rfl (lv_at hl 0 rfl) ?_
  refine b_null (tgt := 19) hC dX11_goes_7 (by decide) h (fun ho h => ?_) (fun w2 hyw2 h => ?_)
  · subst ho
    have hl : lv_has ls 5 [(3, .null), (0, .ref (ad 0)), (1, .int p0), (2, .int p1)] := hl
    refine lv_iconst (v := -1) hC.x hC.b dX11_goes_19 rfl ?_
    rw [hQ]
    exact e_i hC hr hH h dX11_goes_20
  · subst hyw2
    have hl : lv_has ls 5 [(3, .ref (ad w2)), (0, .ref (ad 0)), (1, .int p0), (2, .int p1)] := hl
    obtain ⟨hww2, h⟩ := chk h
    refine lv_iload_n hC.x hC.b dX11_goes_10 rfl (lv_at hl 3 rfl) ?_
    refine b_if_lt (tgt := 19) hC dX11_goes_11 (by decide) h (fun h => ?_) (fun h => ?_)
    · refine lv_iconst (v := -1) hC.x hC.b dX11_goes_19 rfl ?_
      rw [hQ]
      exact e_i hC hr hH h dX11_goes_20
    · refine lv_iload_n hC.x hC.b dX11_goes_14 rfl (lv_at hl 3 rfl) ?_
      refine lv_iconst (v := 3) hC.x hC.b dX11_goes_15 rfl ?_
      refine b_ic_le (tgt := 21) hC dX11_goes_16 (by decide) h (fun h => ?_) (fun h => ?_)
      · refine lv_aload_n hC.x hC.b dX11_goes_21 rfl (lv_at hl 1 rfl) ?_
        refine r_getc (z := 32) hC hH fl_X11_43_11 (hL _ mX0) sX0 rfl dX11_goes_22 ?_
        refine lv_aload_n hC.x hC.b dX11_goes_25 rfl (lv_at hl 1 rfl) ?_
        refine r_getc (z := 10) hC hH fl_X11_12_11 (hL _ mX0) sX0 rfl dX11_goes_26 ?_
        refine lv_aload_n hC.x hC.b dX11_goes_29 rfl (lv_at hl 0 rfl) ?_
        obtain ⟨m3, hf3, h⟩ := bd_e h
        refine c_V0 (As := [.ref (ad 10), .ref (ad w2)]) (rest := []) (o := 32) (q := (RX10, TX10, 10)) hC hX hE.2.1 hF hH (c_X10_learn (l := l) hk hL hE hww2 hf3) kw797 kw798 kw799 kw28 kw800 a_X10_learn.1 a_X10_learn.2 (hL _ mX32) sX32 rfl rfl hl.1 (rmk hR (by decide) (by decide)) (Nat.le_of_ble_eq_true rfl) dX11_goes_30 (fun H locs hH => ?_)
        refine lv_aload_n hC.x hC.b dX11_goes_33 rfl (lv_at hl 1 rfl) ?_
        refine r_getc (z := 32) hC hH fl_X11_43_11 (hL _ mX0) sX0 rfl dX11_goes_34 ?_
        refine lv_aload_n hC.x hC.b dX11_goes_37 rfl (lv_at hl 1 rfl) ?_
        refine r_getc (z := 10) hC hH fl_X11_12_11 (hL _ mX0) sX0 rfl dX11_goes_38 ?_
        refine lv_aload_n hC.x hC.b dX11_goes_41 rfl (lv_at hl 0 rfl) ?_
        refine r_geti hC hH (fw_X11_100 _ hww2.2.2.1) hww2.2.2.2.1 (sW0 hww2) rfl dX11_goes_42 ?_
        refine lv_aload_n hC.x hC.b dX11_goes_45 rfl (lv_at hl 1 rfl) ?_
        refine r_getc (z := 10) hC hH fl_X11_12_11 (hL _ mX0) sX0 rfl dX11_goes_46 ?_
        refine r_geti hC hH fl_X11_103_2 (hL _ mX10) sX10 rfl dX11_goes_49 ?_
        refine lv_aload_n hC.x hC.b dX11_goes_52 rfl (lv_at hl 1 rfl) ?_
        refine r_getc (z := 10) hC hH fl_X11_12_11 (hL _ mX0) sX0 rfl dX11_goes_53 ?_
        refine r_geti hC hH fl_X11_133_2 (hL _ mX10) sX10 rfl dX11_goes_56 ?_
        obtain ⟨x5, m4, hf5, h⟩ := bd2_e h
        refine c_V1 (As := [.ref (ad 10), .int (gI m3 w2 2), .int (gI m3 10 4), .int (gI m3 10 5)]) (rest := []) (o := 32) (q := (RX10, TX10, 10)) hC hX hE.2.1 hF hH (c_X10_follow (l := l) hk hL hE hf5) kw818 kw819 kw820 kw28 kw821 a_X10_follow.1 a_X10_follow.2 (hL _ mX32) sX32 rfl rfl hl.1 (rmk hR (by decide) (by decide)) (Nat.le_of_ble_eq_true rfl) dX11_goes_59 (fun H locs hH => ?_)
        refine lv_istore (lv' := [(4, .int x5), (3, .ref (ad w2)), (0, .ref (ad 0)), (1, .int p0), (2, .int p1)]) hC.x hC.b dX11_goes_62 hl (by decide) rfl (fun ls hl => ?_)
        refine lv_iload_n hC.x hC.b dX11_goes_64 rfl (lv_at hl 4 rfl) ?_
        by_cases hx0 : p1 = 0
        · have h := ifp hx0 h
          refine lv_tableIn (off := 27) (tgt := 92) hC.x hC.b dX11_goes_65 (by rw [hx0]; decide) (by rw [hx0]; decide) (by rw [hx0]; rfl) (by decide) ?_
          refine lv_iload hC.x hC.b dX11_goes_92 (lv_at hl 0 rfl) ?_
          rw [hQ]
          exact e_i hC hr hH h dX11_goes_94
        have h := ifn hx0 h
        by_cases hx1 : p1 = 1
        · have h := ifp hx1 h
          refine lv_tableIn (off := 30) (tgt := 95) hC.x hC.b dX11_goes_65 (by rw [hx1]; decide) (by rw [hx1]; decide) (by rw [hx1]; rfl) (by decide) ?_
          refine lv_aload_n hC.x hC.b dX11_goes_95 rfl (lv_at hl 2 rfl) ?_
          refine r_getc (z := 32) hC hH fl_X11_43_11 (hL _ mX0) sX0 rfl dX11_goes_96 ?_
          refine r_geti hC hH fl_X11_174_10 (hL _ mX32) sX32 rfl dX11_goes_99 ?_
          rw [hQ]
          exact e_i hC hr hH h dX11_goes_102
        have h := ifn hx1 h
        by_cases hx2 : p1 = 2
        · have h := ifp hx2 h
          refine lv_tableIn (off := 38) (tgt := 103) hC.x hC.b dX11_goes_65 (by rw [hx2]; decide) (by rw [hx2]; decide) (by rw [hx2]; rfl) (by decide) ?_
          refine lv_aload_n hC.x hC.b dX11_goes_103 rfl (lv_at hl 2 rfl) ?_
          refine r_getc (z := 32) hC hH fl_X11_43_11 (hL _ mX0) sX0 rfl dX11_goes_104 ?_
          refine r_geti hC hH fl_X11_177_10 (hL _ mX32) sX32 rfl dX11_goes_107 ?_
          rw [hQ]
          exact e_i hC hr hH h dX11_goes_110
        have h := ifn hx2 h
        refine lv_tableOut (tgt := 111) hC.x hC.b dX11_goes_65 (by have a0 := ne_ti (v := 0) (z := 0) rfl hx0; have a1 := ne_ti (v := 1) (z := 1) rfl hx1; have a2 := ne_ti (v := 2) (z := 2) rfl hx2; omega) (by decide) ?_
        refine lv_aload_n hC.x hC.b dX11_goes_111 rfl (lv_at hl 2 rfl) ?_
        refine r_getc (z := 32) hC hH fl_X11_43_11 (hL _ mX0) sX0 rfl dX11_goes_112 ?_
        refine r_geti hC hH fl_X11_180_10 (hL _ mX32) sX32 rfl dX11_goes_115 ?_
        rw [hQ]
        exact e_i hC hr hH h dX11_goes_118
      · refine lv_iconst (v := -1) hC.x hC.b dX11_goes_19 rfl ?_
        rw [hQ]
        exact e_i hC hr hH h dX11_goes_20
def f_X11_out (L : List Nat) (mem : gMem) (p0 : Int32) : Option (Int32 × gMem) := bd (f_X11_find L mem p0) fun (o1 : Option Nat) => oc o1 (some ((-1 : Int32), mem)) fun w2 => if wok L w2 then bd (f_X10_learn L mem w2) fun (m3 : gMem) => bd2 (f_X10_fewest L m3 (gI m3 w2 2) (gI m3 10 4) (gI m3 10 5) (0 : Int32)) fun (x5 : Int32) (m4 : gMem) => some (x5, m4) else none
set_option maxRecDepth 100000 in
set_option maxHeartbeats 4000000 in
theorem c_X11_out {l : Launch} {E : State → Prop} {D : va_G} {cy : Nat → ClassId} {ad : Nat → Nat} {L : List Nat} {mem : gMem} {p0 : Int32} {rv : Int32} {memz : gMem} (hk : gOk ad L) (hL : ∀ o ∈ LX0, o ∈ L) (hE : gEok ad L E)  (h : f_X11_out L mem p0 = some (rv, memz)) : gMet l yX11_out cX11_out 3 (some .int) 6 152 E D cy shX ad L [.ref (ad 0), .int p0] mem memz (some (.int rv)) := by
  refine g_go (own := RX11) (by decide +kernel) rfl hE (Nat.le_of_ble_eq_true rfl) ?_
  intro p e s m args below meth c R Q hargs hR hQ hEs hC hr hX H locs ls hH hl
  have hF := gF_of hk
  have hl : lv_has ls 3 [(0, .ref (ad 0)), (1, .int p0)] := hl
  refine lv_aload_n hC.x hC.b dX11_out_0 rfl (lv_at hl 0 rfl) ?_
  refine lv_iload_n hC.x hC.b dX11_out_1 rfl (lv_at hl 1 rfl) ?_
  obtain ⟨o1, hf1, h⟩ := bd_e h
  refine c_V1 (As := [.int p0]) (rest := []) (o := 0) (q := (RX11, TX11, 13)) hC hX hE.2.1 hF hH (c_X11_find (l := l) hk hL hE hf1) kw267 kw268 kw269 kw2 kw270 a_X11_find.1 a_X11_find.2 (hL _ mX0) sX0 rfl rfl hl.1 (rmk hR (by decide) (by decide)) (Nat.le_of_ble_eq_true rfl) dX11_out_2 (fun H locs hH => ?_)
  refine o_astn (lv' := [(2, va_rf (Option.map ad o1)), (0, .ref (ad 0)), (1, .int p0)]) hC dX11_out_5 rfl hl (by decide) rfl (fun ls hl => ?_)
  refine o_aldn hC dX11_out_6 rfl (lv_at hl 0 rfl) ?_
  refine b_nonnull (tgt := 12) hC dX11_out_7 (by decide) h (fun ho h => ?_) (fun w2 hyw2 h => ?_)
  · subst ho
    have hl : lv_has ls 3 [(2, .null), (0, .ref (ad 0)), (1, .int p0)] := hl
    refine lv_iconst (v := -1) hC.x hC.b dX11_out_10 rfl ?_
    rw [hQ]
    exact e_i hC hr hH h dX11_out_11
  · subst hyw2
    have hl : lv_has ls 3 [(2, .ref (ad w2)), (0, .ref (ad 0)), (1, .int p0)] := hl
    obtain ⟨hww2, h⟩ := chk h
    refine lv_aload_n hC.x hC.b dX11_out_12 rfl (lv_at hl 1 rfl) ?_
    refine r_getc (z := 32) hC hH fl_X11_43_11 (hL _ mX0) sX0 rfl dX11_out_13 ?_
    refine lv_aload_n hC.x hC.b dX11_out_16 rfl (lv_at hl 1 rfl) ?_
    refine r_getc (z := 10) hC hH fl_X11_12_11 (hL _ mX0) sX0 rfl dX11_out_17 ?_
    refine lv_aload_n hC.x hC.b dX11_out_20 rfl (lv_at hl 0 rfl) ?_
    obtain ⟨m3, hf3, h⟩ := bd_e h
    refine c_V0 (As := [.ref (ad 10), .ref (ad w2)]) (rest := []) (o := 32) (q := (RX10, TX10, 10)) hC hX hE.2.1 hF hH (c_X10_learn (l := l) hk hL hE hww2 hf3) kw797 kw798 kw799 kw28 kw800 a_X10_learn.1 a_X10_learn.2 (hL _ mX32) sX32 rfl rfl hl.1 (rmk hR (by decide) (by decide)) (Nat.le_of_ble_eq_true rfl) dX11_out_21 (fun H locs hH => ?_)
    refine lv_aload_n hC.x hC.b dX11_out_24 rfl (lv_at hl 1 rfl) ?_
    refine r_getc (z := 32) hC hH fl_X11_43_11 (hL _ mX0) sX0 rfl dX11_out_25 ?_
    refine lv_aload_n hC.x hC.b dX11_out_28 rfl (lv_at hl 0 rfl) ?_
    refine r_geti hC hH (fw_X11_100 _ hww2.2.2.1) hww2.2.2.2.1 (sW0 hww2) rfl dX11_out_29 ?_
    refine lv_aload_n hC.x hC.b dX11_out_32 rfl (lv_at hl 1 rfl) ?_
    refine r_getc (z := 10) hC hH fl_X11_12_11 (hL _ mX0) sX0 rfl dX11_out_33 ?_
    refine r_geti hC hH fl_X11_103_2 (hL _ mX10) sX10 rfl dX11_out_36 ?_
    refine lv_aload_n hC.x hC.b dX11_out_39 rfl (lv_at hl 1 rfl) ?_
    refine r_getc (z := 10) hC hH fl_X11_12_11 (hL _ mX0) sX0 rfl dX11_out_40 ?_
    refine r_geti hC hH fl_X11_133_2 (hL _ mX10) sX10 rfl dX11_out_43 ?_
    refine lv_iconst (v := 0) hC.x hC.b dX11_out_46 rfl ?_
    obtain ⟨x5, m4, hf5, h⟩ := bd2_e h
    refine c_V1 (As := [.int (gI m3 w2 2), .int (gI m3 10 4), .int (gI m3 10 5), .int (0 : Int32)]) (rest := []) (o := 32) (q := (RX10, TX10, 10)) hC hX hE.2.1 hF hH (c_X10_fewest (l := l) hk hL hE hf5) kw845 kw846 kw847 kw28 kw848 a_X10_fewest.1 a_X10_fewest.2 (hL _ mX32) sX32 rfl rfl hl.1 (rmk hR (by decide) (by decide)) (Nat.le_of_ble_eq_true rfl) dX11_out_47 (fun H locs hH => ?_)
    rw [hQ]
    exact e_i hC hr hH h dX11_out_50
theorem a_X10_seekQuietest : noMH yX10_seekQuietest.cls ∧ arity yX10_seekQuietest.desc 2 := by decide +kernel
theorem fl_X11_194_10 : gFl RX11 194 10 9 := ⟨RX10, TX10, 10, "OnTiptoe$Ways", rfl, inW10, by decide, kw886, Or.inl rfl⟩
theorem fl_X11_191_10 : gFl RX11 191 10 8 := ⟨RX10, TX10, 10, "OnTiptoe$Ways", rfl, inW10, by decide, kw885, Or.inl rfl⟩
def f_X11_quiet (L : List Nat) (mem : gMem) (p0 : Int32) (p1 : Int32) : Option (Int32 × gMem) := bd (f_X11_find L mem p0) fun (o1 : Option Nat) => oc o1 (some ((-1 : Int32), mem)) fun w2 => if wok L w2 then if p1 < 0 then (some ((-1 : Int32), mem)) else if p1 ≤ (1 : Int32) then (bd (f_X10_learn L mem w2) fun (m3 : gMem) => bd (f_X10_seekQuietest L m3 (gI m3 w2 2) (gI m3 10 4)) fun (m4 : gMem) => if p1 = 0 then (some ((gI m4 32 8), m4)) else some ((gI m4 32 9), m4)) else some ((-1 : Int32), mem) else none
set_option maxRecDepth 100000 in
set_option maxHeartbeats 4000000 in
theorem c_X11_quiet {l : Launch} {E : State → Prop} {D : va_G} {cy : Nat → ClassId} {ad : Nat → Nat} {L : List Nat} {mem : gMem} {p0 : Int32} {p1 : Int32} {rv : Int32} {memz : gMem} (hk : gOk ad L) (hL : ∀ o ∈ LX0, o ∈ L) (hE : gEok ad L E)  (h : f_X11_quiet L mem p0 p1 = some (rv, memz)) : gMet l yX11_quiet cX11_quiet 4 (some .int) 194 3887 E D cy shX ad L [.ref (ad 0), .int p0, .int p1] mem memz (some (.int rv)) := by
  refine g_go (own := RX11) (by decide +kernel) rfl hE (Nat.le_of_ble_eq_true rfl) ?_
  intro p e s m args below meth c R Q hargs hR hQ hEs hC hr hX H locs ls hH hl
  have hF := gF_of hk
  have hl : lv_has ls 4 [(0, .ref (ad 0)), (1, .int p0), (2, .int p1)] := hl
  refine lv_aload_n hC.x hC.b dX11_quiet_0 rfl (lv_at hl 0 rfl) ?_
  refine lv_iload_n hC.x hC.b dX11_quiet_1 rfl (lv_at hl 1 rfl) ?_
  obtain ⟨o1, hf1, h⟩ := bd_e h
  refine c_V1 (As := [.int p0]) (rest := []) (o := 0) (q := (RX11, TX11, 13)) hC hX hE.2.1 hF hH (c_X11_find (l := l) hk hL hE hf1) kw267 kw268 kw269 kw2 kw270 a_X11_find.1 a_X11_find.2 (hL _ mX0) sX0 rfl rfl hl.1 (rmk hR (by decide) (by decide)) (Nat.le_of_ble_eq_true rfl) dX11_quiet_2 (fun H locs hH => ?_)
  refine o_astn (lv' := [(3, va_rf (Option.map ad o1)), (0, .ref (ad 0)), (1, .int p0), (2, .int p1)]) hC dX11_quiet_5 rfl hl (by decide) rfl (fun ls hl => ?_)
  refine o_aldn hC dX11_quiet_6 rfl (lv_at hl 0 rfl) ?_
  refine b_null (tgt := 19) hC dX11_quiet_7 (by decide) h (fun ho h => ?_) (fun w2 hyw2 h => ?_)
  · subst ho
    have hl : lv_has ls 4 [(3, .null), (0, .ref (ad 0)), (1, .int p0), (2, .int p1)] := hl
    refine lv_iconst (v := -1) hC.x hC.b dX11_quiet_19 rfl ?_
    rw [hQ]
    exact e_i hC hr hH h dX11_quiet_20
  · subst hyw2
    have hl : lv_has ls 4 [(3, .ref (ad w2)), (0, .ref (ad 0)), (1, .int p0), (2, .int p1)] := hl
    obtain ⟨hww2, h⟩ := chk h
    refine lv_iload_n hC.x hC.b dX11_quiet_10 rfl (lv_at hl 3 rfl) ?_
    refine b_if_lt (tgt := 19) hC dX11_quiet_11 (by decide) h (fun h => ?_) (fun h => ?_)
    · refine lv_iconst (v := -1) hC.x hC.b dX11_quiet_19 rfl ?_
      rw [hQ]
      exact e_i hC hr hH h dX11_quiet_20
    · refine lv_iload_n hC.x hC.b dX11_quiet_14 rfl (lv_at hl 3 rfl) ?_
      refine lv_iconst (v := 1) hC.x hC.b dX11_quiet_15 rfl ?_
      refine b_ic_le (tgt := 21) hC dX11_quiet_16 (by decide) h (fun h => ?_) (fun h => ?_)
      · refine lv_aload_n hC.x hC.b dX11_quiet_21 rfl (lv_at hl 1 rfl) ?_
        refine r_getc (z := 32) hC hH fl_X11_43_11 (hL _ mX0) sX0 rfl dX11_quiet_22 ?_
        refine lv_aload_n hC.x hC.b dX11_quiet_25 rfl (lv_at hl 1 rfl) ?_
        refine r_getc (z := 10) hC hH fl_X11_12_11 (hL _ mX0) sX0 rfl dX11_quiet_26 ?_
        refine lv_aload_n hC.x hC.b dX11_quiet_29 rfl (lv_at hl 0 rfl) ?_
        obtain ⟨m3, hf3, h⟩ := bd_e h
        refine c_V0 (As := [.ref (ad 10), .ref (ad w2)]) (rest := []) (o := 32) (q := (RX10, TX10, 10)) hC hX hE.2.1 hF hH (c_X10_learn (l := l) hk hL hE hww2 hf3) kw797 kw798 kw799 kw28 kw800 a_X10_learn.1 a_X10_learn.2 (hL _ mX32) sX32 rfl rfl hl.1 (rmk hR (by decide) (by decide)) (Nat.le_of_ble_eq_true rfl) dX11_quiet_30 (fun H locs hH => ?_)
        refine lv_aload_n hC.x hC.b dX11_quiet_33 rfl (lv_at hl 1 rfl) ?_
        refine r_getc (z := 32) hC hH fl_X11_43_11 (hL _ mX0) sX0 rfl dX11_quiet_34 ?_
        refine lv_aload_n hC.x hC.b dX11_quiet_37 rfl (lv_at hl 0 rfl) ?_
        refine r_geti hC hH (fw_X11_100 _ hww2.2.2.1) hww2.2.2.2.1 (sW0 hww2) rfl dX11_quiet_38 ?_
        refine lv_aload_n hC.x hC.b dX11_quiet_41 rfl (lv_at hl 1 rfl) ?_
        refine r_getc (z := 10) hC hH fl_X11_12_11 (hL _ mX0) sX0 rfl dX11_quiet_42 ?_
        refine r_geti hC hH fl_X11_103_2 (hL _ mX10) sX10 rfl dX11_quiet_45 ?_
        obtain ⟨m4, hf4, h⟩ := bd_e h
        refine c_V0 (As := [.int (gI m3 w2 2), .int (gI m3 10 4)]) (rest := []) (o := 32) (q := (RX10, TX10, 10)) hC hX hE.2.1 hF hH (c_X10_seekQuietest (l := l) hk hL hE hf4) kw887 kw888 kw889 kw28 kw890 a_X10_seekQuietest.1 a_X10_seekQuietest.2 (hL _ mX32) sX32 rfl rfl hl.1 (rmk hR (by decide) (by decide)) (Nat.le_of_ble_eq_true rfl) dX11_quiet_48 (fun H locs hH => ?_)
        refine lv_iload_n hC.x hC.b dX11_quiet_51 rfl (lv_at hl 3 rfl) ?_
        refine b_if_ne (tgt := 65) hC dX11_quiet_52 (by decide) h (fun h => ?_) (fun h => ?_)
        · refine lv_aload_n hC.x hC.b dX11_quiet_65 rfl (lv_at hl 1 rfl) ?_
          refine r_getc (z := 32) hC hH fl_X11_43_11 (hL _ mX0) sX0 rfl dX11_quiet_66 ?_
          refine r_geti hC hH fl_X11_194_10 (hL _ mX32) sX32 rfl dX11_quiet_69 ?_
          rw [hQ]
          exact e_i hC hr hH h dX11_quiet_72
        · refine lv_aload_n hC.x hC.b dX11_quiet_55 rfl (lv_at hl 1 rfl) ?_
          refine r_getc (z := 32) hC hH fl_X11_43_11 (hL _ mX0) sX0 rfl dX11_quiet_56 ?_
          refine r_geti hC hH fl_X11_191_10 (hL _ mX32) sX32 rfl dX11_quiet_59 ?_
          refine lv_goto (tgt := 72) hC.x hC.b dX11_quiet_62 (by decide) ?_
          rw [hQ]
          exact e_i hC hr hH h dX11_quiet_72
      · refine lv_iconst (v := -1) hC.x hC.b dX11_quiet_19 rfl ?_
        rw [hQ]
        exact e_i hC hr hH h dX11_quiet_20
def s_X11_set_44 (j4 : Int32 → Int32 → gMem → Option (Int32 × gMem)) (L : List Nat) (w2 : Nat) (self5 : Int32 → Int32 → Int32 → gMem → Option (Int32 × gMem)) (x6 : Int32) (x7 : Int32) (x8 : Int32) (m9 : gMem) : Option (Int32 × gMem) := if (20 : Int32) < x8 then ((j4 x6 x7 m9)) else bd2 (f_X10_fewest L m9 (gI m9 w2 2) ((gI m9 10 4) + x8) (if (0 : Int32) < ((gI m9 10 5) - x8) then ((gI m9 10 5) - x8) else (0 : Int32)) (0 : Int32)) fun (x11 : Int32) (m10 : gMem) => bd (f_X11_isFewer x11 x7) fun (x12 : Int32) => jn ((fun (x14 : Int32) (x15 : Int32) => lt1 (x8 + (1 : Int32)) fun (x16 : Int32) => (self5 x14 x15 x16 m10)) : Int32 → Int32 → Option (Int32 × gMem)) fun j13 => if x12 = 0 then ((j13 x6 x7)) else (j13 x8 x11)
def f_X11_set (L : List Nat) (mem : gMem) (p0 : Int32) (p1 : Int32) : Option (Int32 × gMem) := bd (f_X11_find L mem p0) fun (o1 : Option Nat) => oc o1 (some ((-1 : Int32), mem)) fun w2 => if wok L w2 then if p1 < 0 then (some ((-1 : Int32), mem)) else if p1 ≤ (1 : Int32) then (bd (f_X10_learn L mem w2) fun (m3 : gMem) => jn ((fun (x17 : Int32) (x18 : Int32) (m19 : gMem) => if p1 = 0 then (some (x17, m19)) else some (x18, m19)) : Int32 → Int32 → gMem → Option (Int32 × gMem)) fun j4 => lq4 (s_X11_set_44 j4 L w2) 1000 (-5 : Int32) (-5 : Int32) (0 : Int32) m3) else some ((-1 : Int32), mem) else none
set_option maxRecDepth 100000 in
set_option maxHeartbeats 4000000 in
theorem c_X11_set {l : Launch} {E : State → Prop} {D : va_G} {cy : Nat → ClassId} {ad : Nat → Nat} {L : List Nat} {mem : gMem} {p0 : Int32} {p1 : Int32} {rv : Int32} {memz : gMem} (hk : gOk ad L) (hL : ∀ o ∈ LX0, o ∈ L) (hE : gEok ad L E)  (h : f_X11_set L mem p0 p1 = some (rv, memz)) : gMet l yX11_set cX11_set 8 (some .int) 6 152 E D cy shX ad L [.ref (ad 0), .int p0, .int p1] mem memz (some (.int rv)) := by
  refine g_go (own := RX11) (by decide +kernel) rfl hE (Nat.le_of_ble_eq_true rfl) ?_
  intro p e s m args below meth c R Q hargs hR hQ hEs hC hr hX H locs ls hH hl
  have hF := gF_of hk
  have hl : lv_has ls 8 [(0, .ref (ad 0)), (1, .int p0), (2, .int p1)] := hl
  refine lv_aload_n hC.x hC.b dX11_set_0 rfl (lv_at hl 0 rfl) ?_
  refine lv_iload_n hC.x hC.b dX11_set_1 rfl (lv_at hl 1 rfl) ?_
  obtain ⟨o1, hf1, h⟩ := bd_e h
  refine c_V1 (As := [.int p0]) (rest := []) (o := 0) (q := (RX11, TX11, 13)) hC hX hE.2.1 hF hH (c_X11_find (l := l) hk hL hE hf1) kw267 kw268 kw269 kw2 kw270 a_X11_find.1 a_X11_find.2 (hL _ mX0) sX0 rfl rfl hl.1 (rmk hR (by decide) (by decide)) (Nat.le_of_ble_eq_true rfl) dX11_set_2 (fun H locs hH => ?_)
  refine o_astn (lv' := [(3, va_rf (Option.map ad o1)), (0, .ref (ad 0)), (1, .int p0), (2, .int p1)]) hC dX11_set_5 rfl hl (by decide) rfl (fun ls hl => ?_)
  refine o_aldn hC dX11_set_6 rfl (lv_at hl 0 rfl) ?_
  refine b_null (tgt := 19) hC dX11_set_7 (by decide) h (fun ho h => ?_) (fun w2 hyw2 h => ?_)
  · subst ho
    have hl : lv_has ls 8 [(3, .null), (0, .ref (ad 0)), (1, .int p0), (2, .int p1)] := hl
    refine lv_iconst (v := -1) hC.x hC.b dX11_set_19 rfl ?_
    rw [hQ]
    exact e_i hC hr hH h dX11_set_20
  · subst hyw2
    have hl : lv_has ls 8 [(3, .ref (ad w2)), (0, .ref (ad 0)), (1, .int p0), (2, .int p1)] := hl
    obtain ⟨hww2, h⟩ := chk h
    refine lv_iload_n hC.x hC.b dX11_set_10 rfl (lv_at hl 3 rfl) ?_
    refine b_if_lt (tgt := 19) hC dX11_set_11 (by decide) h (fun h => ?_) (fun h => ?_)
    · refine lv_iconst (v := -1) hC.x hC.b dX11_set_19 rfl ?_
      rw [hQ]
      exact e_i hC hr hH h dX11_set_20
    · refine lv_iload_n hC.x hC.b dX11_set_14 rfl (lv_at hl 3 rfl) ?_
      refine lv_iconst (v := 1) hC.x hC.b dX11_set_15 rfl ?_
      refine b_ic_le (tgt := 21) hC dX11_set_16 (by decide) h (fun h => ?_) (fun h => ?_)
      · refine lv_aload_n hC.x hC.b dX11_set_21 rfl (lv_at hl 1 rfl) ?_
        refine r_getc (z := 32) hC hH fl_X11_43_11 (hL _ mX0) sX0 rfl dX11_set_22 ?_
        refine lv_aload_n hC.x hC.b dX11_set_25 rfl (lv_at hl 1 rfl) ?_
        refine r_getc (z := 10) hC hH fl_X11_12_11 (hL _ mX0) sX0 rfl dX11_set_26 ?_
        refine lv_aload_n hC.x hC.b dX11_set_29 rfl (lv_at hl 0 rfl) ?_
        obtain ⟨m3, hf3, h⟩ := bd_e h
        refine c_V0 (As := [.ref (ad 10), .ref (ad w2)]) (rest := []) (o := 32) (q := (RX10, TX10, 10)) hC hX hE.2.1 hF hH (c_X10_learn (l := l) hk hL hE hww2 hf3) kw797 kw798 kw799 kw28 kw800 a_X10_learn.1 a_X10_learn.2 (hL _ mX32) sX32 rfl rfl hl.1 (rmk hR (by decide) (by decide)) (Nat.le_of_ble_eq_true rfl) dX11_set_30 (fun H locs hH => ?_)
        refine lv_bipush (v := -5) hC.x hC.b dX11_set_33 rfl ?_
        refine lv_istore (lv' := [(4, .int (-5 : Int32)), (3, .ref (ad w2)), (0, .ref (ad 0)), (1, .int p0), (2, .int p1)]) hC.x hC.b dX11_set_35 hl (by decide) rfl (fun ls hl => ?_)
        refine lv_bipush (v := -5) hC.x hC.b dX11_set_37 rfl ?_
        refine lv_istore (lv' := [(5, .int (-5 : Int32)), (4, .int (-5 : Int32)), (3, .ref (ad w2)), (0, .ref (ad 0)), (1, .int p0), (2, .int p1)]) hC.x hC.b dX11_set_39 hl (by decide) rfl (fun ls hl => ?_)
        refine lv_iconst (v := 0) hC.x hC.b dX11_set_41 rfl ?_
        refine lv_istore (lv' := [(6, .int (0 : Int32)), (5, .int (-5 : Int32)), (4, .int (-5 : Int32)), (3, .ref (ad w2)), (0, .ref (ad 0)), (1, .int p0), (2, .int p1)]) hC.x hC.b dX11_set_42 hl (by decide) rfl (fun ls hl => ?_)
        obtain ⟨j4, ej4, h⟩ := jn_e h
        have hj4 : ∀ (x17 : Int32) (x18 : Int32) (m19 : gMem) (H : Heap) (locs : List Loc) (ls : Array Slot), (j4 x17 x18 m19) = some (rv, memz) → gH D cy shX ad L (gA ad L) s.heap m19 H locs → lv_has ls 8 [(2, .int p1), (4, .int x17), (5, .int x18)] → W p l e R s m args below meth c H locs 0 0 Q (F0 m 113 ls []) := by
          intro x17 x18 m19 H locs ls h hH hl
          have h := ap3 ej4 h
          refine lv_iload_n hC.x hC.b dX11_set_113 rfl (lv_at hl 0 rfl) ?_
          refine b_if_ne (tgt := 122) hC dX11_set_114 (by decide) h (fun h => ?_) (fun h => ?_)
          · refine lv_iload hC.x hC.b dX11_set_122 (lv_at hl 2 rfl) ?_
            rw [hQ]
            exact e_i hC hr hH h dX11_set_124
          · refine lv_iload hC.x hC.b dX11_set_117 (lv_at hl 1 rfl) ?_
            refine lv_goto (tgt := 124) hC.x hC.b dX11_set_119 (by decide) ?_
            rw [hQ]
            exact e_i hC hr hH h dX11_set_124
        clear ej4
        have hl5 : ∀ (n : Nat) (x6 : Int32) (x7 : Int32) (x8 : Int32) (m9 : gMem) (H : Heap) (locs : List Loc) (ls : Array Slot), lq4 (s_X11_set_44 j4 L w2) n x6 x7 x8 m9 = some (rv, memz) → gH D cy shX ad L (gA ad L) s.heap m9 H locs → lv_has ls 8 [(0, .ref (ad 0)), (2, .int p1), (3, .ref (ad w2)), (4, .int x6), (5, .int x7), (6, .int x8)] → W p l e R s m args below meth c H locs 0 0 Q (F0 m 44 ls []) := by
          intro n
          induction n with
          | zero => intro x6 x7 x8 m9 H locs ls h _ _; exact lq4_0 h
          | succ n ih5 =>
            intro x6 x7 x8 m9 H locs ls h hH hl
            obtain ⟨self5, es5, h⟩ := lq4_s h
            refine lv_iload hC.x hC.b dX11_set_44 (lv_at hl 5 rfl) ?_
            refine lv_bipush (v := 20) hC.x hC.b dX11_set_46 rfl ?_
            refine b_ic_gt (tgt := 113) hC dX11_set_48 (by decide) h (fun h => ?_) (fun h => ?_)
            · exact hj4 x6 x7 m9 H locs ls h hH (lv_sub hl [1, 3, 4] rfl)
            · refine lv_aload_n hC.x hC.b dX11_set_51 rfl (lv_at hl 0 rfl) ?_
              refine r_getc (z := 32) hC hH fl_X11_43_11 (hL _ mX0) sX0 rfl dX11_set_52 ?_
              refine lv_aload_n hC.x hC.b dX11_set_55 rfl (lv_at hl 2 rfl) ?_
              refine r_geti hC hH (fw_X11_100 _ hww2.2.2.1) hww2.2.2.2.1 (sW0 hww2) rfl dX11_set_56 ?_
              refine lv_aload_n hC.x hC.b dX11_set_59 rfl (lv_at hl 0 rfl) ?_
              refine r_getc (z := 10) hC hH fl_X11_12_11 (hL _ mX0) sX0 rfl dX11_set_60 ?_
              refine r_geti hC hH fl_X11_103_2 (hL _ mX10) sX10 rfl dX11_set_63 ?_
              refine lv_iload hC.x hC.b dX11_set_66 (lv_at hl 5 rfl) ?_
              refine lv_iadd hC.x hC.b dX11_set_68 ?_
              refine lv_iconst (v := 0) hC.x hC.b dX11_set_69 rfl ?_
              refine lv_aload_n hC.x hC.b dX11_set_70 rfl (lv_at hl 0 rfl) ?_
              refine r_getc (z := 10) hC hH fl_X11_12_11 (hL _ mX0) sX0 rfl dX11_set_71 ?_
              refine r_geti hC hH fl_X11_133_2 (hL _ mX10) sX10 rfl dX11_set_74 ?_
              refine lv_iload hC.x hC.b dX11_set_77 (lv_at hl 5 rfl) ?_
              refine lv_isub hC.x hC.b dX11_set_79 ?_
              refine m_max hC hl.1 kw767 kw309 kw310 kw311 (rmM hR (by decide) (Nat.le_of_ble_eq_true rfl)) dX11_set_80 ?_
              refine lv_iconst (v := 0) hC.x hC.b dX11_set_83 rfl ?_
              obtain ⟨x11, m10, hf11, h⟩ := bd2_e h
              refine c_V1 (As := [.int (gI m9 w2 2), .int ((gI m9 10 4) + x8), .int (if (0 : Int32) < ((gI m9 10 5) - x8) then ((gI m9 10 5) - x8) else (0 : Int32)), .int (0 : Int32)]) (rest := []) (o := 32) (q := (RX10, TX10, 10)) hC hX hE.2.1 hF hH (c_X10_fewest (l := l) hk hL hE hf11) kw845 kw846 kw847 kw28 kw848 a_X10_fewest.1 a_X10_fewest.2 (hL _ mX32) sX32 rfl rfl hl.1 (rmk hR (by decide) (by decide)) (Nat.le_of_ble_eq_true rfl) dX11_set_84 (fun H locs hH => ?_)
              refine lv_istore (lv' := [(7, .int x11), (0, .ref (ad 0)), (2, .int p1), (3, .ref (ad w2)), (4, .int x6), (5, .int x7), (6, .int x8)]) hC.x hC.b dX11_set_87 hl (by decide) rfl (fun ls hl => ?_)
              refine lv_iload hC.x hC.b dX11_set_89 (lv_at hl 0 rfl) ?_
              refine lv_iload hC.x hC.b dX11_set_91 (lv_at hl 5 rfl) ?_
              obtain ⟨x12, hf12, h⟩ := bd_e h
              refine c_S1 (As := [.int x11, .int x7]) (rest := []) hC hX hE.2.1 hF hH (c_X11_isFewer (l := l) hk hL hE hf12) kw922 kw923 kw2 kw924 a_X11_isFewer.1 a_X11_isFewer.2 rfl hl.1 (rmk hR (by decide) (by decide)) (Nat.le_of_ble_eq_true rfl) dX11_set_93 (fun H locs hH => ?_)
              obtain ⟨j13, ej13, h⟩ := jn_e h
              have hj13 : ∀ (x14 : Int32) (x15 : Int32) (H : Heap) (locs : List Loc) (ls : Array Slot), (j13 x14 x15) = some (rv, memz) → gH D cy shX ad L (gA ad L) s.heap m10 H locs → lv_has ls 8 [(0, .ref (ad 0)), (2, .int p1), (3, .ref (ad w2)), (4, .int x14), (5, .int x15), (6, .int x8)] → W p l e R s m args below meth c H locs 0 0 Q (F0 m 107 ls []) := by
                intro x14 x15 H locs ls h hH hl
                have h := ap2 ej13 h
                refine i_inc (lv' := fun x16 => [(6, .int x16), (0, .ref (ad 0)), (2, .int p1), (3, .ref (ad w2)), (4, .int x14), (5, .int x15)]) hC dX11_set_107 hl (k := 5) rfl (by decide) (fun _ => rfl) (z := 1) rfl h (fun x16 ls h hl => ?_)
                refine lv_goto (tgt := 44) hC.x hC.b dX11_set_110 (by decide) ?_
                exact ih5 x14 x15 x16 m10 H locs ls (ap4 es5 h) hH (lv_sub hl [1, 2, 3, 4, 5, 0] rfl)
              clear ej13
              refine b_if_eq (tgt := 107) hC dX11_set_96 (by decide) h (fun h => ?_) (fun h => ?_)
              · exact hj13 x6 x7 H locs ls h hH (lv_sub hl [1, 2, 3, 4, 5, 6] rfl)
              · refine lv_iload hC.x hC.b dX11_set_99 (lv_at hl 0 rfl) ?_
                refine lv_istore (lv' := [(5, .int x11), (7, .int x11), (0, .ref (ad 0)), (2, .int p1), (3, .ref (ad w2)), (4, .int x6), (6, .int x8)]) hC.x hC.b dX11_set_101 hl (by decide) rfl (fun ls hl => ?_)
                refine lv_iload hC.x hC.b dX11_set_103 (lv_at hl 6 rfl) ?_
                refine lv_istore (lv' := [(4, .int x8), (5, .int x11), (7, .int x11), (0, .ref (ad 0)), (2, .int p1), (3, .ref (ad w2)), (6, .int x8)]) hC.x hC.b dX11_set_105 hl (by decide) rfl (fun ls hl => ?_)
                exact hj13 x8 x11 H locs ls h hH (lv_sub hl [3, 4, 5, 0, 1, 6] rfl)
        exact hl5 _ (-5 : Int32) (-5 : Int32) (0 : Int32) m3 H locs ls h hH (lv_sub hl [4, 6, 3, 2, 1, 0] rfl)
      · refine lv_iconst (v := -1) hC.x hC.b dX11_set_19 rfl ?_
        rw [hQ]
        exact e_i hC hr hH h dX11_set_20
theorem a_X11_bestChange : noMH yX11_bestChange.cls ∧ arity yX11_bestChange.desc 2 := by decide +kernel
def f_X11_mend (L : List Nat) (mem : gMem) (p0 : Int32) : Option (Int32 × gMem) := bd (f_X11_find L mem p0) fun (o1 : Option Nat) => oc o1 (some ((-1 : Int32), mem)) fun w2 => if wok L w2 then bd (f_X10_learn L mem w2) fun (m3 : gMem) => bd2 (f_X11_bestChange L m3 w2 (0 : Int32)) fun (x5 : Int32) (m4 : gMem) => some (x5, m4) else none
set_option maxRecDepth 100000 in
set_option maxHeartbeats 4000000 in
theorem c_X11_mend {l : Launch} {E : State → Prop} {D : va_G} {cy : Nat → ClassId} {ad : Nat → Nat} {L : List Nat} {mem : gMem} {p0 : Int32} {rv : Int32} {memz : gMem} (hk : gOk ad L) (hL : ∀ o ∈ LX0, o ∈ L) (hE : gEok ad L E)  (h : f_X11_mend L mem p0 = some (rv, memz)) : gMet l yX11_mend cX11_mend 3 (some .int) 6 157 E D cy shX ad L [.ref (ad 0), .int p0] mem memz (some (.int rv)) := by
  refine g_go (own := RX11) (by decide +kernel) rfl hE (Nat.le_of_ble_eq_true rfl) ?_
  intro p e s m args below meth c R Q hargs hR hQ hEs hC hr hX H locs ls hH hl
  have hF := gF_of hk
  have hl : lv_has ls 3 [(0, .ref (ad 0)), (1, .int p0)] := hl
  refine lv_aload_n hC.x hC.b dX11_mend_0 rfl (lv_at hl 0 rfl) ?_
  refine lv_iload_n hC.x hC.b dX11_mend_1 rfl (lv_at hl 1 rfl) ?_
  obtain ⟨o1, hf1, h⟩ := bd_e h
  refine c_V1 (As := [.int p0]) (rest := []) (o := 0) (q := (RX11, TX11, 13)) hC hX hE.2.1 hF hH (c_X11_find (l := l) hk hL hE hf1) kw267 kw268 kw269 kw2 kw270 a_X11_find.1 a_X11_find.2 (hL _ mX0) sX0 rfl rfl hl.1 (rmk hR (by decide) (by decide)) (Nat.le_of_ble_eq_true rfl) dX11_mend_2 (fun H locs hH => ?_)
  refine o_astn (lv' := [(2, va_rf (Option.map ad o1)), (0, .ref (ad 0)), (1, .int p0)]) hC dX11_mend_5 rfl hl (by decide) rfl (fun ls hl => ?_)
  refine o_aldn hC dX11_mend_6 rfl (lv_at hl 0 rfl) ?_
  refine b_nonnull (tgt := 12) hC dX11_mend_7 (by decide) h (fun ho h => ?_) (fun w2 hyw2 h => ?_)
  · subst ho
    have hl : lv_has ls 3 [(2, .null), (0, .ref (ad 0)), (1, .int p0)] := hl
    refine lv_iconst (v := -1) hC.x hC.b dX11_mend_10 rfl ?_
    rw [hQ]
    exact e_i hC hr hH h dX11_mend_11
  · subst hyw2
    have hl : lv_has ls 3 [(2, .ref (ad w2)), (0, .ref (ad 0)), (1, .int p0)] := hl
    obtain ⟨hww2, h⟩ := chk h
    refine lv_aload_n hC.x hC.b dX11_mend_12 rfl (lv_at hl 1 rfl) ?_
    refine r_getc (z := 32) hC hH fl_X11_43_11 (hL _ mX0) sX0 rfl dX11_mend_13 ?_
    refine lv_aload_n hC.x hC.b dX11_mend_16 rfl (lv_at hl 1 rfl) ?_
    refine r_getc (z := 10) hC hH fl_X11_12_11 (hL _ mX0) sX0 rfl dX11_mend_17 ?_
    refine lv_aload_n hC.x hC.b dX11_mend_20 rfl (lv_at hl 0 rfl) ?_
    obtain ⟨m3, hf3, h⟩ := bd_e h
    refine c_V0 (As := [.ref (ad 10), .ref (ad w2)]) (rest := []) (o := 32) (q := (RX10, TX10, 10)) hC hX hE.2.1 hF hH (c_X10_learn (l := l) hk hL hE hww2 hf3) kw797 kw798 kw799 kw28 kw800 a_X10_learn.1 a_X10_learn.2 (hL _ mX32) sX32 rfl rfl hl.1 (rmk hR (by decide) (by decide)) (Nat.le_of_ble_eq_true rfl) dX11_mend_21 (fun H locs hH => ?_)
    refine lv_aload_n hC.x hC.b dX11_mend_24 rfl (lv_at hl 1 rfl) ?_
    refine lv_aload_n hC.x hC.b dX11_mend_25 rfl (lv_at hl 0 rfl) ?_
    refine lv_iconst (v := 0) hC.x hC.b dX11_mend_26 rfl ?_
    obtain ⟨x5, m4, hf5, h⟩ := bd2_e h
    refine c_V1 (As := [.ref (ad w2), .int (0 : Int32)]) (rest := []) (o := 0) (q := (RX11, TX11, 13)) hC hX hE.2.1 hF hH (c_X11_bestChange (l := l) hk hL hE hww2 hf5) kw933 kw934 kw935 kw2 kw936 a_X11_bestChange.1 a_X11_bestChange.2 (hL _ mX0) sX0 rfl rfl hl.1 (rmk hR (by decide) (by decide)) (Nat.le_of_ble_eq_true rfl) dX11_mend_27 (fun H locs hH => ?_)
    rw [hQ]
    exact e_i hC hr hH h dX11_mend_30
def f_X11_away (L : List Nat) (mem : gMem) (p0 : Int32) : Option (Int32 × gMem) := bd (f_X11_find L mem p0) fun (o1 : Option Nat) => oc o1 (some ((-1 : Int32), mem)) fun w2 => if wok L w2 then bd (f_X10_learn L mem w2) fun (m3 : gMem) => bd2 (f_X11_bestChange L m3 w2 (1 : Int32)) fun (x5 : Int32) (m4 : gMem) => some (x5, m4) else none
set_option maxRecDepth 100000 in
set_option maxHeartbeats 4000000 in
theorem c_X11_away {l : Launch} {E : State → Prop} {D : va_G} {cy : Nat → ClassId} {ad : Nat → Nat} {L : List Nat} {mem : gMem} {p0 : Int32} {rv : Int32} {memz : gMem} (hk : gOk ad L) (hL : ∀ o ∈ LX0, o ∈ L) (hE : gEok ad L E)  (h : f_X11_away L mem p0 = some (rv, memz)) : gMet l yX11_away cX11_away 3 (some .int) 6 157 E D cy shX ad L [.ref (ad 0), .int p0] mem memz (some (.int rv)) := by
  refine g_go (own := RX11) (by decide +kernel) rfl hE (Nat.le_of_ble_eq_true rfl) ?_
  intro p e s m args below meth c R Q hargs hR hQ hEs hC hr hX H locs ls hH hl
  have hF := gF_of hk
  have hl : lv_has ls 3 [(0, .ref (ad 0)), (1, .int p0)] := hl
  refine lv_aload_n hC.x hC.b dX11_away_0 rfl (lv_at hl 0 rfl) ?_
  refine lv_iload_n hC.x hC.b dX11_away_1 rfl (lv_at hl 1 rfl) ?_
  obtain ⟨o1, hf1, h⟩ := bd_e h
  refine c_V1 (As := [.int p0]) (rest := []) (o := 0) (q := (RX11, TX11, 13)) hC hX hE.2.1 hF hH (c_X11_find (l := l) hk hL hE hf1) kw267 kw268 kw269 kw2 kw270 a_X11_find.1 a_X11_find.2 (hL _ mX0) sX0 rfl rfl hl.1 (rmk hR (by decide) (by decide)) (Nat.le_of_ble_eq_true rfl) dX11_away_2 (fun H locs hH => ?_)
  refine o_astn (lv' := [(2, va_rf (Option.map ad o1)), (0, .ref (ad 0)), (1, .int p0)]) hC dX11_away_5 rfl hl (by decide) rfl (fun ls hl => ?_)
  refine o_aldn hC dX11_away_6 rfl (lv_at hl 0 rfl) ?_
  refine b_nonnull (tgt := 12) hC dX11_away_7 (by decide) h (fun ho h => ?_) (fun w2 hyw2 h => ?_)
  · subst ho
    have hl : lv_has ls 3 [(2, .null), (0, .ref (ad 0)), (1, .int p0)] := hl
    refine lv_iconst (v := -1) hC.x hC.b dX11_away_10 rfl ?_
    rw [hQ]
    exact e_i hC hr hH h dX11_away_11
  · subst hyw2
    have hl : lv_has ls 3 [(2, .ref (ad w2)), (0, .ref (ad 0)), (1, .int p0)] := hl
    obtain ⟨hww2, h⟩ := chk h
    refine lv_aload_n hC.x hC.b dX11_away_12 rfl (lv_at hl 1 rfl) ?_
    refine r_getc (z := 32) hC hH fl_X11_43_11 (hL _ mX0) sX0 rfl dX11_away_13 ?_
    refine lv_aload_n hC.x hC.b dX11_away_16 rfl (lv_at hl 1 rfl) ?_
    refine r_getc (z := 10) hC hH fl_X11_12_11 (hL _ mX0) sX0 rfl dX11_away_17 ?_
    refine lv_aload_n hC.x hC.b dX11_away_20 rfl (lv_at hl 0 rfl) ?_
    obtain ⟨m3, hf3, h⟩ := bd_e h
    refine c_V0 (As := [.ref (ad 10), .ref (ad w2)]) (rest := []) (o := 32) (q := (RX10, TX10, 10)) hC hX hE.2.1 hF hH (c_X10_learn (l := l) hk hL hE hww2 hf3) kw797 kw798 kw799 kw28 kw800 a_X10_learn.1 a_X10_learn.2 (hL _ mX32) sX32 rfl rfl hl.1 (rmk hR (by decide) (by decide)) (Nat.le_of_ble_eq_true rfl) dX11_away_21 (fun H locs hH => ?_)
    refine lv_aload_n hC.x hC.b dX11_away_24 rfl (lv_at hl 1 rfl) ?_
    refine lv_aload_n hC.x hC.b dX11_away_25 rfl (lv_at hl 0 rfl) ?_
    refine lv_iconst (v := 1) hC.x hC.b dX11_away_26 rfl ?_
    obtain ⟨x5, m4, hf5, h⟩ := bd2_e h
    refine c_V1 (As := [.ref (ad w2), .int (1 : Int32)]) (rest := []) (o := 0) (q := (RX11, TX11, 13)) hC hX hE.2.1 hF hH (c_X11_bestChange (l := l) hk hL hE hww2 hf5) kw933 kw934 kw935 kw2 kw936 a_X11_bestChange.1 a_X11_bestChange.2 (hL _ mX0) sX0 rfl rfl hl.1 (rmk hR (by decide) (by decide)) (Nat.le_of_ble_eq_true rfl) dX11_away_27 (fun H locs hH => ?_)
    rw [hQ]
    exact e_i hC hr hH h dX11_away_30
def s_X11_from_29 (L : List Nat) (self4 : Int32 → Int32 → gMem → Option (Int32 × gMem)) (x5 : Int32) (x6 : Int32) (m7 : gMem) : Option (Int32 × gMem) := if (12 : Int32) ≤ x6 then (some (x5, m7)) else bd2 (f_X10_fewest L m7 x6 (gI m7 10 4) (gI m7 10 5) (0 : Int32)) fun (x9 : Int32) (m8 : gMem) => jn ((fun (x12 : Int32) => lt1 (x6 + (1 : Int32)) fun (x13 : Int32) => (self4 x12 x13 m8)) : Int32 → Option (Int32 × gMem)) fun j10 => if x9 = (-5 : Int32) then ((j10 x5)) else lt1 (x5 ||| ((1 : Int32) <<< (x6 &&& 31))) fun (x11 : Int32) => (j10 x11)
def f_X11_from (L : List Nat) (mem : gMem) (p0 : Int32) : Option (Int32 × gMem) := bd (f_X11_find L mem p0) fun (o1 : Option Nat) => oc o1 (some ((-1 : Int32), mem)) fun w2 => if wok L w2 then bd (f_X10_learn L mem w2) fun (m3 : gMem) => lq3 (s_X11_from_29 L) 1000 (0 : Int32) (0 : Int32) m3 else none
set_option maxRecDepth 100000 in
set_option maxHeartbeats 4000000 in
theorem c_X11_from {l : Launch} {E : State → Prop} {D : va_G} {cy : Nat → ClassId} {ad : Nat → Nat} {L : List Nat} {mem : gMem} {p0 : Int32} {rv : Int32} {memz : gMem} (hk : gOk ad L) (hL : ∀ o ∈ LX0, o ∈ L) (hE : gEok ad L E)  (h : f_X11_from L mem p0 = some (rv, memz)) : gMet l yX11_from cX11_from 5 (some .int) 6 152 E D cy shX ad L [.ref (ad 0), .int p0] mem memz (some (.int rv)) := by
  refine g_go (own := RX11) (by decide +kernel) rfl hE (Nat.le_of_ble_eq_true rfl) ?_
  intro p e s m args below meth c R Q hargs hR hQ hEs hC hr hX H locs ls hH hl
  have hF := gF_of hk
  have hl : lv_has ls 5 [(0, .ref (ad 0)), (1, .int p0)] := hl
  refine lv_aload_n hC.x hC.b dX11_from_0 rfl (lv_at hl 0 rfl) ?_
  refine lv_iload_n hC.x hC.b dX11_from_1 rfl (lv_at hl 1 rfl) ?_
  obtain ⟨o1, hf1, h⟩ := bd_e h
  refine c_V1 (As := [.int p0]) (rest := []) (o := 0) (q := (RX11, TX11, 13)) hC hX hE.2.1 hF hH (c_X11_find (l := l) hk hL hE hf1) kw267 kw268 kw269 kw2 kw270 a_X11_find.1 a_X11_find.2 (hL _ mX0) sX0 rfl rfl hl.1 (rmk hR (by decide) (by decide)) (Nat.le_of_ble_eq_true rfl) dX11_from_2 (fun H locs hH => ?_)
  refine o_astn (lv' := [(2, va_rf (Option.map ad o1)), (0, .ref (ad 0)), (1, .int p0)]) hC dX11_from_5 rfl hl (by decide) rfl (fun ls hl => ?_)
  refine o_aldn hC dX11_from_6 rfl (lv_at hl 0 rfl) ?_
  refine b_nonnull (tgt := 12) hC dX11_from_7 (by decide) h (fun ho h => ?_) (fun w2 hyw2 h => ?_)
  · subst ho
    have hl : lv_has ls 5 [(2, .null), (0, .ref (ad 0)), (1, .int p0)] := hl
    refine lv_iconst (v := -1) hC.x hC.b dX11_from_10 rfl ?_
    rw [hQ]
    exact e_i hC hr hH h dX11_from_11
  · subst hyw2
    have hl : lv_has ls 5 [(2, .ref (ad w2)), (0, .ref (ad 0)), (1, .int p0)] := hl
    obtain ⟨hww2, h⟩ := chk h
    refine lv_aload_n hC.x hC.b dX11_from_12 rfl (lv_at hl 1 rfl) ?_
    refine r_getc (z := 32) hC hH fl_X11_43_11 (hL _ mX0) sX0 rfl dX11_from_13 ?_
    refine lv_aload_n hC.x hC.b dX11_from_16 rfl (lv_at hl 1 rfl) ?_
    refine r_getc (z := 10) hC hH fl_X11_12_11 (hL _ mX0) sX0 rfl dX11_from_17 ?_
    refine lv_aload_n hC.x hC.b dX11_from_20 rfl (lv_at hl 0 rfl) ?_
    obtain ⟨m3, hf3, h⟩ := bd_e h
    refine c_V0 (As := [.ref (ad 10), .ref (ad w2)]) (rest := []) (o := 32) (q := (RX10, TX10, 10)) hC hX hE.2.1 hF hH (c_X10_learn (l := l) hk hL hE hww2 hf3) kw797 kw798 kw799 kw28 kw800 a_X10_learn.1 a_X10_learn.2 (hL _ mX32) sX32 rfl rfl hl.1 (rmk hR (by decide) (by decide)) (Nat.le_of_ble_eq_true rfl) dX11_from_21 (fun H locs hH => ?_)
    refine lv_iconst (v := 0) hC.x hC.b dX11_from_24 rfl ?_
    refine lv_istore_n (lv' := [(3, .int (0 : Int32)), (2, .ref (ad w2)), (0, .ref (ad 0)), (1, .int p0)]) hC.x hC.b dX11_from_25 rfl hl (by decide) rfl (fun ls hl => ?_)
    refine lv_iconst (v := 0) hC.x hC.b dX11_from_26 rfl ?_
    refine lv_istore (lv' := [(4, .int (0 : Int32)), (3, .int (0 : Int32)), (2, .ref (ad w2)), (0, .ref (ad 0)), (1, .int p0)]) hC.x hC.b dX11_from_27 hl (by decide) rfl (fun ls hl => ?_)
    have hl4 : ∀ (n : Nat) (x5 : Int32) (x6 : Int32) (m7 : gMem) (H : Heap) (locs : List Loc) (ls : Array Slot), lq3 (s_X11_from_29 L) n x5 x6 m7 = some (rv, memz) → gH D cy shX ad L (gA ad L) s.heap m7 H locs → lv_has ls 5 [(0, .ref (ad 0)), (3, .int x5), (4, .int x6)] → W p l e R s m args below meth c H locs 0 0 Q (F0 m 29 ls []) := by
      intro n
      induction n with
      | zero => intro x5 x6 m7 H locs ls h _ _; exact lq3_0 h
      | succ n ih4 =>
        intro x5 x6 m7 H locs ls h hH hl
        obtain ⟨self4, es4, h⟩ := lq3_s h
        refine lv_iload hC.x hC.b dX11_from_29 (lv_at hl 2 rfl) ?_
        refine lv_bipush (v := 12) hC.x hC.b dX11_from_31 rfl ?_
        refine b_ic_ge (tgt := 78) hC dX11_from_33 (by decide) h (fun h => ?_) (fun h => ?_)
        · refine lv_iload_n hC.x hC.b dX11_from_78 rfl (lv_at hl 1 rfl) ?_
          rw [hQ]
          exact e_i hC hr hH h dX11_from_79
        · refine lv_aload_n hC.x hC.b dX11_from_36 rfl (lv_at hl 0 rfl) ?_
          refine r_getc (z := 32) hC hH fl_X11_43_11 (hL _ mX0) sX0 rfl dX11_from_37 ?_
          refine lv_iload hC.x hC.b dX11_from_40 (lv_at hl 2 rfl) ?_
          refine lv_aload_n hC.x hC.b dX11_from_42 rfl (lv_at hl 0 rfl) ?_
          refine r_getc (z := 10) hC hH fl_X11_12_11 (hL _ mX0) sX0 rfl dX11_from_43 ?_
          refine r_geti hC hH fl_X11_103_2 (hL _ mX10) sX10 rfl dX11_from_46 ?_
          refine lv_aload_n hC.x hC.b dX11_from_49 rfl (lv_at hl 0 rfl) ?_
          refine r_getc (z := 10) hC hH fl_X11_12_11 (hL _ mX0) sX0 rfl dX11_from_50 ?_
          refine r_geti hC hH fl_X11_133_2 (hL _ mX10) sX10 rfl dX11_from_53 ?_
          refine lv_iconst (v := 0) hC.x hC.b dX11_from_56 rfl ?_
          obtain ⟨x9, m8, hf9, h⟩ := bd2_e h
          refine c_V1 (As := [.int x6, .int (gI m7 10 4), .int (gI m7 10 5), .int (0 : Int32)]) (rest := []) (o := 32) (q := (RX10, TX10, 10)) hC hX hE.2.1 hF hH (c_X10_fewest (l := l) hk hL hE hf9) kw845 kw846 kw847 kw28 kw848 a_X10_fewest.1 a_X10_fewest.2 (hL _ mX32) sX32 rfl rfl hl.1 (rmk hR (by decide) (by decide)) (Nat.le_of_ble_eq_true rfl) dX11_from_57 (fun H locs hH => ?_)
          refine lv_bipush (v := -5) hC.x hC.b dX11_from_60 rfl ?_
          obtain ⟨j10, ej10, h⟩ := jn_e h
          have hj10 : ∀ (x12 : Int32) (H : Heap) (locs : List Loc) (ls : Array Slot), (j10 x12) = some (rv, memz) → gH D cy shX ad L (gA ad L) s.heap m8 H locs → lv_has ls 5 [(0, .ref (ad 0)), (3, .int x12), (4, .int x6)] → W p l e R s m args below meth c H locs 0 0 Q (F0 m 72 ls []) := by
            intro x12 H locs ls h hH hl
            have h := ap1 ej10 h
            refine i_inc (lv' := fun x13 => [(4, .int x13), (0, .ref (ad 0)), (3, .int x12)]) hC dX11_from_72 hl (k := 2) rfl (by decide) (fun _ => rfl) (z := 1) rfl h (fun x13 ls h hl => ?_)
            refine lv_goto (tgt := 29) hC.x hC.b dX11_from_75 (by decide) ?_
            exact ih4 x12 x13 m8 H locs ls (ap3 es4 h) hH (lv_sub hl [1, 2, 0] rfl)
          clear ej10
          refine b_ic_eq (tgt := 72) hC dX11_from_62 (by decide) h (fun h => ?_) (fun h => ?_)
          · exact hj10 x5 H locs ls h hH (lv_sub hl [0, 1, 2] rfl)
          · refine lv_iload_n hC.x hC.b dX11_from_65 rfl (lv_at hl 1 rfl) ?_
            refine lv_iconst (v := 1) hC.x hC.b dX11_from_66 rfl ?_
            refine lv_iload hC.x hC.b dX11_from_67 (lv_at hl 2 rfl) ?_
            refine lv_ishl hC.x hC.b dX11_from_69 ?_
            refine lv_ior hC.x hC.b dX11_from_70 ?_
            refine n_i h (fun x11 h => ?_)
            refine lv_istore_n (lv' := [(3, .int x11), (0, .ref (ad 0)), (4, .int x6)]) hC.x hC.b dX11_from_71 rfl hl (by decide) rfl (fun ls hl => ?_)
            exact hj10 x11 H locs ls h hH (lv_sub hl [1, 0, 2] rfl)
    exact hl4 _ (0 : Int32) (0 : Int32) m3 H locs ls h hH (lv_sub hl [3, 1, 0] rfl)
def s_X11_deeper_33 (j4 : Int32 → gMem → Option (Int32 × gMem)) (L : List Nat) (w2 : Nat) (self5 : Int32 → Int32 → Int32 → gMem → Option (Int32 × gMem)) (x6 : Int32) (x7 : Int32) (x8 : Int32) (m9 : gMem) : Option (Int32 × gMem) := if (30 : Int32) < x8 then ((j4 x7 m9)) else if (x7 - x6) ≤ (1 : Int32) then ((j4 x7 m9)) else lt1 ((x6 + x7) / (2 : Int32)) fun (x10 : Int32) => bd2 (f_X10_fewest L m9 (gI m9 w2 2) (gI m9 10 4) (gI m9 10 5) x10) fun (x12 : Int32) (m11 : gMem) => jn ((fun (x14 : Int32) (x15 : Int32) => lt1 (x8 + (1 : Int32)) fun (x16 : Int32) => (self5 x14 x15 x16 m11)) : Int32 → Int32 → Option (Int32 × gMem)) fun j13 => if x12 = (-5 : Int32) then ((j13 x10 x7)) else (j13 x6 x10)
def f_X11_deeper (L : List Nat) (mem : gMem) (p0 : Int32) : Option (Int32 × gMem) := bd (f_X11_find L mem p0) fun (o1 : Option Nat) => oc o1 (some ((-1 : Int32), mem)) fun w2 => if wok L w2 then bd (f_X10_learn L mem w2) fun (m3 : gMem) => jn ((fun (x17 : Int32) (m18 : gMem) => if x17 ≤ (30 : Int32) then (some (x17, m18)) else some ((-5 : Int32), m18)) : Int32 → gMem → Option (Int32 × gMem)) fun j4 => lq4 (s_X11_deeper_33 j4 L w2) 1000 (-1 : Int32) (31 : Int32) (0 : Int32) m3 else none
set_option maxRecDepth 100000 in
set_option maxHeartbeats 4000000 in
theorem c_X11_deeper {l : Launch} {E : State → Prop} {D : va_G} {cy : Nat → ClassId} {ad : Nat → Nat} {L : List Nat} {mem : gMem} {p0 : Int32} {rv : Int32} {memz : gMem} (hk : gOk ad L) (hL : ∀ o ∈ LX0, o ∈ L) (hE : gEok ad L E)  (h : f_X11_deeper L mem p0 = some (rv, memz)) : gMet l yX11_deeper cX11_deeper 7 (some .int) 6 152 E D cy shX ad L [.ref (ad 0), .int p0] mem memz (some (.int rv)) := by
  refine g_go (own := RX11) (by decide +kernel) rfl hE (Nat.le_of_ble_eq_true rfl) ?_
  intro p e s m args below meth c R Q hargs hR hQ hEs hC hr hX H locs ls hH hl
  have hF := gF_of hk
  have hl : lv_has ls 7 [(0, .ref (ad 0)), (1, .int p0)] := hl
  refine lv_aload_n hC.x hC.b dX11_deeper_0 rfl (lv_at hl 0 rfl) ?_
  refine lv_iload_n hC.x hC.b dX11_deeper_1 rfl (lv_at hl 1 rfl) ?_
  obtain ⟨o1, hf1, h⟩ := bd_e h
  refine c_V1 (As := [.int p0]) (rest := []) (o := 0) (q := (RX11, TX11, 13)) hC hX hE.2.1 hF hH (c_X11_find (l := l) hk hL hE hf1) kw267 kw268 kw269 kw2 kw270 a_X11_find.1 a_X11_find.2 (hL _ mX0) sX0 rfl rfl hl.1 (rmk hR (by decide) (by decide)) (Nat.le_of_ble_eq_true rfl) dX11_deeper_2 (fun H locs hH => ?_)
  refine o_astn (lv' := [(2, va_rf (Option.map ad o1)), (0, .ref (ad 0)), (1, .int p0)]) hC dX11_deeper_5 rfl hl (by decide) rfl (fun ls hl => ?_)
  refine o_aldn hC dX11_deeper_6 rfl (lv_at hl 0 rfl) ?_
  refine b_nonnull (tgt := 12) hC dX11_deeper_7 (by decide) h (fun ho h => ?_) (fun w2 hyw2 h => ?_)
  · subst ho
    have hl : lv_has ls 7 [(2, .null), (0, .ref (ad 0)), (1, .int p0)] := hl
    refine lv_iconst (v := -1) hC.x hC.b dX11_deeper_10 rfl ?_
    rw [hQ]
    exact e_i hC hr hH h dX11_deeper_11
  · subst hyw2
    have hl : lv_has ls 7 [(2, .ref (ad w2)), (0, .ref (ad 0)), (1, .int p0)] := hl
    obtain ⟨hww2, h⟩ := chk h
    refine lv_aload_n hC.x hC.b dX11_deeper_12 rfl (lv_at hl 1 rfl) ?_
    refine r_getc (z := 32) hC hH fl_X11_43_11 (hL _ mX0) sX0 rfl dX11_deeper_13 ?_
    refine lv_aload_n hC.x hC.b dX11_deeper_16 rfl (lv_at hl 1 rfl) ?_
    refine r_getc (z := 10) hC hH fl_X11_12_11 (hL _ mX0) sX0 rfl dX11_deeper_17 ?_
    refine lv_aload_n hC.x hC.b dX11_deeper_20 rfl (lv_at hl 0 rfl) ?_
    obtain ⟨m3, hf3, h⟩ := bd_e h
    refine c_V0 (As := [.ref (ad 10), .ref (ad w2)]) (rest := []) (o := 32) (q := (RX10, TX10, 10)) hC hX hE.2.1 hF hH (c_X10_learn (l := l) hk hL hE hww2 hf3) kw797 kw798 kw799 kw28 kw800 a_X10_learn.1 a_X10_learn.2 (hL _ mX32) sX32 rfl rfl hl.1 (rmk hR (by decide) (by decide)) (Nat.le_of_ble_eq_true rfl) dX11_deeper_21 (fun H locs hH => ?_)
    refine lv_iconst (v := -1) hC.x hC.b dX11_deeper_24 rfl ?_
    refine lv_istore_n (lv' := [(3, .int (-1 : Int32)), (2, .ref (ad w2)), (0, .ref (ad 0)), (1, .int p0)]) hC.x hC.b dX11_deeper_25 rfl hl (by decide) rfl (fun ls hl => ?_)
    refine lv_bipush (v := 31) hC.x hC.b dX11_deeper_26 rfl ?_
    refine lv_istore (lv' := [(4, .int (31 : Int32)), (3, .int (-1 : Int32)), (2, .ref (ad w2)), (0, .ref (ad 0)), (1, .int p0)]) hC.x hC.b dX11_deeper_28 hl (by decide) rfl (fun ls hl => ?_)
    refine lv_iconst (v := 0) hC.x hC.b dX11_deeper_30 rfl ?_
    refine lv_istore (lv' := [(5, .int (0 : Int32)), (4, .int (31 : Int32)), (3, .int (-1 : Int32)), (2, .ref (ad w2)), (0, .ref (ad 0)), (1, .int p0)]) hC.x hC.b dX11_deeper_31 hl (by decide) rfl (fun ls hl => ?_)
    obtain ⟨j4, ej4, h⟩ := jn_e h
    have hj4 : ∀ (x17 : Int32) (m18 : gMem) (H : Heap) (locs : List Loc) (ls : Array Slot), (j4 x17 m18) = some (rv, memz) → gH D cy shX ad L (gA ad L) s.heap m18 H locs → lv_has ls 7 [(4, .int x17)] → W p l e R s m args below meth c H locs 0 0 Q (F0 m 104 ls []) := by
      intro x17 m18 H locs ls h hH hl
      have h := ap2 ej4 h
      refine lv_iload hC.x hC.b dX11_deeper_104 (lv_at hl 0 rfl) ?_
      refine lv_bipush (v := 30) hC.x hC.b dX11_deeper_106 rfl ?_
      refine b_ic_le (tgt := 116) hC dX11_deeper_108 (by decide) h (fun h => ?_) (fun h => ?_)
      · refine lv_iload hC.x hC.b dX11_deeper_116 (lv_at hl 0 rfl) ?_
        rw [hQ]
        exact e_i hC hr hH h dX11_deeper_118
      · refine lv_bipush (v := -5) hC.x hC.b dX11_deeper_111 rfl ?_
        refine lv_goto (tgt := 118) hC.x hC.b dX11_deeper_113 (by decide) ?_
        rw [hQ]
        exact e_i hC hr hH h dX11_deeper_118
    clear ej4
    have hl5 : ∀ (n : Nat) (x6 : Int32) (x7 : Int32) (x8 : Int32) (m9 : gMem) (H : Heap) (locs : List Loc) (ls : Array Slot), lq4 (s_X11_deeper_33 j4 L w2) n x6 x7 x8 m9 = some (rv, memz) → gH D cy shX ad L (gA ad L) s.heap m9 H locs → lv_has ls 7 [(0, .ref (ad 0)), (2, .ref (ad w2)), (3, .int x6), (4, .int x7), (5, .int x8)] → W p l e R s m args below meth c H locs 0 0 Q (F0 m 33 ls []) := by
      intro n
      induction n with
      | zero => intro x6 x7 x8 m9 H locs ls h _ _; exact lq4_0 h
      | succ n ih5 =>
        intro x6 x7 x8 m9 H locs ls h hH hl
        obtain ⟨self5, es5, h⟩ := lq4_s h
        refine lv_iload hC.x hC.b dX11_deeper_33 (lv_at hl 4 rfl) ?_
        refine lv_bipush (v := 30) hC.x hC.b dX11_deeper_35 rfl ?_
        refine b_ic_gt (tgt := 104) hC dX11_deeper_37 (by decide) h (fun h => ?_) (fun h => ?_)
        · exact hj4 x7 m9 H locs ls h hH (lv_sub hl [3] rfl)
        · refine lv_iload hC.x hC.b dX11_deeper_40 (lv_at hl 3 rfl) ?_
          refine lv_iload_n hC.x hC.b dX11_deeper_42 rfl (lv_at hl 2 rfl) ?_
          refine lv_isub hC.x hC.b dX11_deeper_43 ?_
          refine lv_iconst (v := 1) hC.x hC.b dX11_deeper_44 rfl ?_
          refine b_ic_le (tgt := 104) hC dX11_deeper_45 (by decide) h (fun h => ?_) (fun h => ?_)
          · exact hj4 x7 m9 H locs ls h hH (lv_sub hl [3] rfl)
          · refine lv_iload_n hC.x hC.b dX11_deeper_48 rfl (lv_at hl 2 rfl) ?_
            refine lv_iload hC.x hC.b dX11_deeper_49 (lv_at hl 3 rfl) ?_
            refine lv_iadd hC.x hC.b dX11_deeper_51 ?_
            refine lv_iconst (v := 2) hC.x hC.b dX11_deeper_52 rfl ?_
            refine lv_idiv hC.x hC.b dX11_deeper_53 (by decide) ?_
            refine n_i h (fun x10 h => ?_)
            refine lv_istore (lv' := [(6, .int x10), (0, .ref (ad 0)), (2, .ref (ad w2)), (3, .int x6), (4, .int x7), (5, .int x8)]) hC.x hC.b dX11_deeper_54 hl (by decide) rfl (fun ls hl => ?_)
            refine lv_aload_n hC.x hC.b dX11_deeper_56 rfl (lv_at hl 1 rfl) ?_
            refine r_getc (z := 32) hC hH fl_X11_43_11 (hL _ mX0) sX0 rfl dX11_deeper_57 ?_
            refine lv_aload_n hC.x hC.b dX11_deeper_60 rfl (lv_at hl 2 rfl) ?_
            refine r_geti hC hH (fw_X11_100 _ hww2.2.2.1) hww2.2.2.2.1 (sW0 hww2) rfl dX11_deeper_61 ?_
            refine lv_aload_n hC.x hC.b dX11_deeper_64 rfl (lv_at hl 1 rfl) ?_
            refine r_getc (z := 10) hC hH fl_X11_12_11 (hL _ mX0) sX0 rfl dX11_deeper_65 ?_
            refine r_geti hC hH fl_X11_103_2 (hL _ mX10) sX10 rfl dX11_deeper_68 ?_
            refine lv_aload_n hC.x hC.b dX11_deeper_71 rfl (lv_at hl 1 rfl) ?_
            refine r_getc (z := 10) hC hH fl_X11_12_11 (hL _ mX0) sX0 rfl dX11_deeper_72 ?_
            refine r_geti hC hH fl_X11_133_2 (hL _ mX10) sX10 rfl dX11_deeper_75 ?_
            refine lv_iload hC.x hC.b dX11_deeper_78 (lv_at hl 0 rfl) ?_
            obtain ⟨x12, m11, hf12, h⟩ := bd2_e h
            refine c_V1 (As := [.int (gI m9 w2 2), .int (gI m9 10 4), .int (gI m9 10 5), .int x10]) (rest := []) (o := 32) (q := (RX10, TX10, 10)) hC hX hE.2.1 hF hH (c_X10_fewest (l := l) hk hL hE hf12) kw845 kw846 kw847 kw28 kw848 a_X10_fewest.1 a_X10_fewest.2 (hL _ mX32) sX32 rfl rfl hl.1 (rmk hR (by decide) (by decide)) (Nat.le_of_ble_eq_true rfl) dX11_deeper_80 (fun H locs hH => ?_)
            refine lv_bipush (v := -5) hC.x hC.b dX11_deeper_83 rfl ?_
            obtain ⟨j13, ej13, h⟩ := jn_e h
            have hj13 : ∀ (x14 : Int32) (x15 : Int32) (H : Heap) (locs : List Loc) (ls : Array Slot), (j13 x14 x15) = some (rv, memz) → gH D cy shX ad L (gA ad L) s.heap m11 H locs → lv_has ls 7 [(0, .ref (ad 0)), (2, .ref (ad w2)), (3, .int x14), (4, .int x15), (5, .int x8)] → W p l e R s m args below meth c H locs 0 0 Q (F0 m 98 ls []) := by
              intro x14 x15 H locs ls h hH hl
              have h := ap2 ej13 h
              refine i_inc (lv' := fun x16 => [(5, .int x16), (0, .ref (ad 0)), (2, .ref (ad w2)), (3, .int x14), (4, .int x15)]) hC dX11_deeper_98 hl (k := 4) rfl (by decide) (fun _ => rfl) (z := 1) rfl h (fun x16 ls h hl => ?_)
              refine lv_goto (tgt := 33) hC.x hC.b dX11_deeper_101 (by decide) ?_
              exact ih5 x14 x15 x16 m11 H locs ls (ap4 es5 h) hH (lv_sub hl [1, 2, 3, 4, 0] rfl)
            clear ej13
            refine b_ic_ne (tgt := 94) hC dX11_deeper_85 (by decide) h (fun h => ?_) (fun h => ?_)
            · refine lv_iload hC.x hC.b dX11_deeper_94 (lv_at hl 0 rfl) ?_
              refine lv_istore (lv' := [(4, .int x10), (6, .int x10), (0, .ref (ad 0)), (2, .ref (ad w2)), (3, .int x6), (5, .int x8)]) hC.x hC.b dX11_deeper_96 hl (by decide) rfl (fun ls hl => ?_)
              exact hj13 x6 x10 H locs ls h hH (lv_sub hl [2, 3, 4, 0, 5] rfl)
            · refine lv_iload hC.x hC.b dX11_deeper_88 (lv_at hl 0 rfl) ?_
              refine lv_istore_n (lv' := [(3, .int x10), (6, .int x10), (0, .ref (ad 0)), (2, .ref (ad w2)), (4, .int x7), (5, .int x8)]) hC.x hC.b dX11_deeper_90 rfl hl (by decide) rfl (fun ls hl => ?_)
              refine lv_goto (tgt := 98) hC.x hC.b dX11_deeper_91 (by decide) ?_
              exact hj13 x10 x7 H locs ls h hH (lv_sub hl [2, 3, 0, 4, 5] rfl)
    exact hl5 _ (-1 : Int32) (31 : Int32) (0 : Int32) m3 H locs ls h hH (lv_sub hl [4, 3, 2, 1, 0] rfl)
theorem a_X2_fitsSeen : noMH yX2_fitsSeen.cls ∧ arity yX2_fitsSeen.desc 1 := by decide +kernel
def s_X11_who_4 (L : List Nat) (self1 : Int32 → Int32 → gMem → Option (Int32 × gMem)) (x2 : Int32) (x3 : Int32) (m4 : gMem) : Option (Int32 × gMem) := if (gI m4 10 3) ≤ x3 then (some (x2, m4)) else bd (f_X11_find L m4 x3) fun (o5 : Option Nat) => jn ((fun (x11 : Int32) (m12 : gMem) => lt1 (x3 + (1 : Int32)) fun (x13 : Int32) => (self1 x11 x13 m12)) : Int32 → gMem → Option (Int32 × gMem)) fun j6 => oc o5 ((j6 x2 m4)) fun w7 => if wok L w7 then bd2 (f_X2_fitsSeen L m4 w7) fun (x9 : Int32) (m8 : gMem) => if x9 = 0 then ((j6 x2 m8)) else lt1 (x2 ||| ((1 : Int32) <<< (x3 &&& 31))) fun (x10 : Int32) => (j6 x10 m8) else none
def f_X11_who (L : List Nat) (mem : gMem) : Option (Int32 × gMem) := lq3 (s_X11_who_4 L) 1000 (0 : Int32) (0 : Int32) mem
set_option maxRecDepth 100000 in
set_option maxHeartbeats 4000000 in
theorem c_X11_who {l : Launch} {E : State → Prop} {D : va_G} {cy : Nat → ClassId} {ad : Nat → Nat} {L : List Nat} {mem : gMem} {rv : Int32} {memz : gMem} (hk : gOk ad L) (hL : ∀ o ∈ LX0, o ∈ L) (hE : gEok ad L E)  (h : f_X11_who L mem = some (rv, memz)) : gMet l yX11_who cX11_who 4 (some .int) 6 150 E D cy shX ad L [.ref (ad 0)] mem memz (some (.int rv)) := by
  refine g_go (own := RX11) (by decide +kernel) rfl hE (Nat.le_of_ble_eq_true rfl) ?_
  intro p e s m args below meth c R Q hargs hR hQ hEs hC hr hX H locs ls hH hl
  have hF := gF_of hk
  have hl : lv_has ls 4 [(0, .ref (ad 0))] := hl
  refine lv_iconst (v := 0) hC.x hC.b dX11_who_0 rfl ?_
  refine lv_istore_n (lv' := [(1, .int (0 : Int32)), (0, .ref (ad 0))]) hC.x hC.b dX11_who_1 rfl hl (by decide) rfl (fun ls hl => ?_)
  refine lv_iconst (v := 0) hC.x hC.b dX11_who_2 rfl ?_
  refine lv_istore_n (lv' := [(2, .int (0 : Int32)), (1, .int (0 : Int32)), (0, .ref (ad 0))]) hC.x hC.b dX11_who_3 rfl hl (by decide) rfl (fun ls hl => ?_)
  have hl1 : ∀ (n : Nat) (x2 : Int32) (x3 : Int32) (m4 : gMem) (H : Heap) (locs : List Loc) (ls : Array Slot), lq3 (s_X11_who_4 L) n x2 x3 m4 = some (rv, memz) → gH D cy shX ad L (gA ad L) s.heap m4 H locs → lv_has ls 4 [(0, .ref (ad 0)), (1, .int x2), (2, .int x3)] → W p l e R s m args below meth c H locs 0 0 Q (F0 m 4 ls []) := by
    intro n
    induction n with
    | zero => intro x2 x3 m4 H locs ls h _ _; exact lq3_0 h
    | succ n ih1 =>
      intro x2 x3 m4 H locs ls h hH hl
      obtain ⟨self1, es1, h⟩ := lq3_s h
      refine lv_iload_n hC.x hC.b dX11_who_4 rfl (lv_at hl 2 rfl) ?_
      refine lv_aload_n hC.x hC.b dX11_who_5 rfl (lv_at hl 0 rfl) ?_
      refine r_getc (z := 10) hC hH fl_X11_12_11 (hL _ mX0) sX0 rfl dX11_who_6 ?_
      refine r_geti hC hH fl_X11_82_2 (hL _ mX10) sX10 rfl dX11_who_9 ?_
      refine b_ic_ge (tgt := 48) hC dX11_who_12 (by decide) h (fun h => ?_) (fun h => ?_)
      · refine lv_iload_n hC.x hC.b dX11_who_48 rfl (lv_at hl 1 rfl) ?_
        rw [hQ]
        exact e_i hC hr hH h dX11_who_49
      · refine lv_aload_n hC.x hC.b dX11_who_15 rfl (lv_at hl 0 rfl) ?_
        refine lv_iload_n hC.x hC.b dX11_who_16 rfl (lv_at hl 2 rfl) ?_
        obtain ⟨o5, hf5, h⟩ := bd_e h
        refine c_V1 (As := [.int x3]) (rest := []) (o := 0) (q := (RX11, TX11, 13)) hC hX hE.2.1 hF hH (c_X11_find (l := l) hk hL hE hf5) kw267 kw268 kw269 kw2 kw270 a_X11_find.1 a_X11_find.2 (hL _ mX0) sX0 rfl rfl hl.1 (rmk hR (by decide) (by decide)) (Nat.le_of_ble_eq_true rfl) dX11_who_17 (fun H locs hH => ?_)
        refine o_astn (lv' := [(3, va_rf (Option.map ad o5)), (0, .ref (ad 0)), (1, .int x2), (2, .int x3)]) hC dX11_who_20 rfl hl (by decide) rfl (fun ls hl => ?_)
        refine o_aldn hC dX11_who_21 rfl (lv_at hl 0 rfl) ?_
        obtain ⟨j6, ej6, h⟩ := jn_e h
        have hj6 : ∀ (x11 : Int32) (m12 : gMem) (H : Heap) (locs : List Loc) (ls : Array Slot), (j6 x11 m12) = some (rv, memz) → gH D cy shX ad L (gA ad L) s.heap m12 H locs → lv_has ls 4 [(0, .ref (ad 0)), (1, .int x11), (2, .int x3)] → W p l e R s m args below meth c H locs 0 0 Q (F0 m 42 ls []) := by
          intro x11 m12 H locs ls h hH hl
          have h := ap2 ej6 h
          refine i_inc (lv' := fun x13 => [(2, .int x13), (0, .ref (ad 0)), (1, .int x11)]) hC dX11_who_42 hl (k := 2) rfl (by decide) (fun _ => rfl) (z := 1) rfl h (fun x13 ls h hl => ?_)
          refine lv_goto (tgt := 4) hC.x hC.b dX11_who_45 (by decide) ?_
          exact ih1 x11 x13 m12 H locs ls (ap3 es1 h) hH (lv_sub hl [1, 2, 0] rfl)
        clear ej6
        refine b_null (tgt := 42) hC dX11_who_22 (by decide) h (fun ho h => ?_) (fun w7 hyw7 h => ?_)
        · subst ho
          have hl : lv_has ls 4 [(3, .null), (0, .ref (ad 0)), (1, .int x2), (2, .int x3)] := hl
          exact hj6 x2 m4 H locs ls h hH (lv_sub hl [1, 2, 3] rfl)
        · subst hyw7
          have hl : lv_has ls 4 [(3, .ref (ad w7)), (0, .ref (ad 0)), (1, .int x2), (2, .int x3)] := hl
          obtain ⟨hww7, h⟩ := chk h
          refine lv_aload_n hC.x hC.b dX11_who_25 rfl (lv_at hl 1 rfl) ?_
          refine r_getc (z := 10) hC hH fl_X11_12_11 (hL _ mX0) sX0 rfl dX11_who_26 ?_
          refine lv_aload_n hC.x hC.b dX11_who_29 rfl (lv_at hl 0 rfl) ?_
          obtain ⟨x9, m8, hf9, h⟩ := bd2_e h
          refine c_V1 (As := [.ref (ad w7)]) (rest := []) (o := 10) (q := (RX2, TX2, 17)) hC hX hE.2.1 hF hH (c_X2_fitsSeen (l := l) hk hL hE hww7 hf9) kw982 kw983 kw984 kw15 kw985 a_X2_fitsSeen.1 a_X2_fitsSeen.2 (hL _ mX10) sX10 rfl rfl hl.1 (rmk hR (by decide) (by decide)) (Nat.le_of_ble_eq_true rfl) dX11_who_30 (fun H locs hH => ?_)
          refine b_if_eq (tgt := 42) hC dX11_who_33 (by decide) h (fun h => ?_) (fun h => ?_)
          · exact hj6 x2 m8 H locs ls h hH (lv_sub hl [1, 2, 3] rfl)
          · refine lv_iload_n hC.x hC.b dX11_who_36 rfl (lv_at hl 2 rfl) ?_
            refine lv_iconst (v := 1) hC.x hC.b dX11_who_37 rfl ?_
            refine lv_iload_n hC.x hC.b dX11_who_38 rfl (lv_at hl 3 rfl) ?_
            refine lv_ishl hC.x hC.b dX11_who_39 ?_
            refine lv_ior hC.x hC.b dX11_who_40 ?_
            refine n_i h (fun x10 h => ?_)
            refine lv_istore_n (lv' := [(1, .int x10), (3, .ref (ad w7)), (0, .ref (ad 0)), (2, .int x3)]) hC.x hC.b dX11_who_41 rfl hl (by decide) rfl (fun ls hl => ?_)
            exact hj6 x10 m8 H locs ls h hH (lv_sub hl [2, 0, 3] rfl)
  exact hl1 _ (0 : Int32) (0 : Int32) mem H locs ls h hH (lv_sub hl [2, 1, 0] rfl)
def s_X11_odds_41 (j4 : Int32 → gMem → Option (Int64 × gMem)) (L : List Nat) (w2 : Nat) (self5 : Int32 → Int32 → gMem → Option (Int64 × gMem)) (x6 : Int32) (x7 : Int32) (m8 : gMem) : Option (Int64 × gMem) := if (12 : Int32) ≤ x7 then ((j4 x6 m8)) else bd2 (f_X10_follow L m8 (gI m8 w2 2) ((gI m8 10 4) + x7) (if (0 : Int32) < ((gI m8 10 5) - x7) then ((gI m8 10 5) - x7) else (0 : Int32))) fun (x10 : Int32) (m9 : gMem) => jn ((fun (x13 : Int32) => lt1 (x7 + (1 : Int32)) fun (x14 : Int32) => (self5 x13 x14 m9)) : Int32 → Option (Int64 × gMem)) fun j11 => if x10 = (-5 : Int32) then (lt1 (x6 + (1 : Int32)) fun (x12 : Int32) => (j11 x12)) else (j11 x6)
def f_X11_odds (L : List Nat) (mem : gMem) (p0 : Int32) (p1 : Int32) : Option (Int64 × gMem) := bd (f_X11_find L mem p0) fun (o1 : Option Nat) => oc o1 (some ((-9223372036854775808 : Int64), mem)) fun w2 => if wok L w2 then if p1 < 0 then (some ((-9223372036854775808 : Int64), mem)) else if p1 ≤ (1 : Int32) then (bd (f_X10_learn L mem w2) fun (m3 : gMem) => jn ((fun (x15 : Int32) (m16 : gMem) => bd (f_X11_fraction x15 (12 : Int32) p1) fun (y17 : Int64) => some (y17, m16)) : Int32 → gMem → Option (Int64 × gMem)) fun j4 => lq3 (s_X11_odds_41 j4 L w2) 1000 (0 : Int32) (0 : Int32) m3) else some ((-9223372036854775808 : Int64), mem) else none
set_option maxRecDepth 100000 in
set_option maxHeartbeats 4000000 in
theorem c_X11_odds {l : Launch} {E : State → Prop} {D : va_G} {cy : Nat → ClassId} {ad : Nat → Nat} {L : List Nat} {mem : gMem} {p0 : Int32} {p1 : Int32} {rv : Int64} {memz : gMem} (hk : gOk ad L) (hL : ∀ o ∈ LX0, o ∈ L) (hE : gEok ad L E)  (h : f_X11_odds L mem p0 p1 = some (rv, memz)) : gMet l yX11_odds cX11_odds 6 (some .long) 6 152 E D cy shX ad L [.ref (ad 0), .int p0, .int p1] mem memz (some (.long rv)) := by
  refine g_go (own := RX11) (by decide +kernel) rfl hE (Nat.le_of_ble_eq_true rfl) ?_
  intro p e s m args below meth c R Q hargs hR hQ hEs hC hr hX H locs ls hH hl
  have hF := gF_of hk
  have hl : lv_has ls 6 [(0, .ref (ad 0)), (1, .int p0), (2, .int p1)] := hl
  refine lv_aload_n hC.x hC.b dX11_odds_0 rfl (lv_at hl 0 rfl) ?_
  refine lv_iload_n hC.x hC.b dX11_odds_1 rfl (lv_at hl 1 rfl) ?_
  obtain ⟨o1, hf1, h⟩ := bd_e h
  refine c_V1 (As := [.int p0]) (rest := []) (o := 0) (q := (RX11, TX11, 13)) hC hX hE.2.1 hF hH (c_X11_find (l := l) hk hL hE hf1) kw267 kw268 kw269 kw2 kw270 a_X11_find.1 a_X11_find.2 (hL _ mX0) sX0 rfl rfl hl.1 (rmk hR (by decide) (by decide)) (Nat.le_of_ble_eq_true rfl) dX11_odds_2 (fun H locs hH => ?_)
  refine o_astn (lv' := [(3, va_rf (Option.map ad o1)), (0, .ref (ad 0)), (1, .int p0), (2, .int p1)]) hC dX11_odds_5 rfl hl (by decide) rfl (fun ls hl => ?_)
  refine o_aldn hC dX11_odds_6 rfl (lv_at hl 0 rfl) ?_
  refine b_null (tgt := 19) hC dX11_odds_7 (by decide) h (fun ho h => ?_) (fun w2 hyw2 h => ?_)
  · subst ho
    have hl : lv_has ls 6 [(3, .null), (0, .ref (ad 0)), (1, .int p0), (2, .int p1)] := hl
    refine lv_ldc2 (v := -9223372036854775808) hC.x hC.b hC.ow (hC.ts _ kw998) dX11_odds_19 ?_
    rw [hQ]
    exact e_l hC hr hH h dX11_odds_22
  · subst hyw2
    have hl : lv_has ls 6 [(3, .ref (ad w2)), (0, .ref (ad 0)), (1, .int p0), (2, .int p1)] := hl
    obtain ⟨hww2, h⟩ := chk h
    refine lv_iload_n hC.x hC.b dX11_odds_10 rfl (lv_at hl 3 rfl) ?_
    refine b_if_lt (tgt := 19) hC dX11_odds_11 (by decide) h (fun h => ?_) (fun h => ?_)
    · refine lv_ldc2 (v := -9223372036854775808) hC.x hC.b hC.ow (hC.ts _ kw998) dX11_odds_19 ?_
      rw [hQ]
      exact e_l hC hr hH h dX11_odds_22
    · refine lv_iload_n hC.x hC.b dX11_odds_14 rfl (lv_at hl 3 rfl) ?_
      refine lv_iconst (v := 1) hC.x hC.b dX11_odds_15 rfl ?_
      refine b_ic_le (tgt := 23) hC dX11_odds_16 (by decide) h (fun h => ?_) (fun h => ?_)
      · refine lv_aload_n hC.x hC.b dX11_odds_23 rfl (lv_at hl 1 rfl) ?_
        refine r_getc (z := 32) hC hH fl_X11_43_11 (hL _ mX0) sX0 rfl dX11_odds_24 ?_
        refine lv_aload_n hC.x hC.b dX11_odds_27 rfl (lv_at hl 1 rfl) ?_
        refine r_getc (z := 10) hC hH fl_X11_12_11 (hL _ mX0) sX0 rfl dX11_odds_28 ?_
        refine lv_aload_n hC.x hC.b dX11_odds_31 rfl (lv_at hl 0 rfl) ?_
        obtain ⟨m3, hf3, h⟩ := bd_e h
        refine c_V0 (As := [.ref (ad 10), .ref (ad w2)]) (rest := []) (o := 32) (q := (RX10, TX10, 10)) hC hX hE.2.1 hF hH (c_X10_learn (l := l) hk hL hE hww2 hf3) kw797 kw798 kw799 kw28 kw800 a_X10_learn.1 a_X10_learn.2 (hL _ mX32) sX32 rfl rfl hl.1 (rmk hR (by decide) (by decide)) (Nat.le_of_ble_eq_true rfl) dX11_odds_32 (fun H locs hH => ?_)
        refine lv_iconst (v := 0) hC.x hC.b dX11_odds_35 rfl ?_
        refine lv_istore (lv' := [(4, .int (0 : Int32)), (3, .ref (ad w2)), (0, .ref (ad 0)), (1, .int p0), (2, .int p1)]) hC.x hC.b dX11_odds_36 hl (by decide) rfl (fun ls hl => ?_)
        refine lv_iconst (v := 0) hC.x hC.b dX11_odds_38 rfl ?_
        refine lv_istore (lv' := [(5, .int (0 : Int32)), (4, .int (0 : Int32)), (3, .ref (ad w2)), (0, .ref (ad 0)), (1, .int p0), (2, .int p1)]) hC.x hC.b dX11_odds_39 hl (by decide) rfl (fun ls hl => ?_)
        obtain ⟨j4, ej4, h⟩ := jn_e h
        have hj4 : ∀ (x15 : Int32) (m16 : gMem) (H : Heap) (locs : List Loc) (ls : Array Slot), (j4 x15 m16) = some (rv, memz) → gH D cy shX ad L (gA ad L) s.heap m16 H locs → lv_has ls 6 [(2, .int p1), (4, .int x15)] → W p l e R s m args below meth c H locs 0 0 Q (F0 m 101 ls []) := by
          intro x15 m16 H locs ls h hH hl
          have h := ap2 ej4 h
          refine lv_iload hC.x hC.b dX11_odds_101 (lv_at hl 1 rfl) ?_
          refine lv_bipush (v := 12) hC.x hC.b dX11_odds_103 rfl ?_
          refine lv_iload_n hC.x hC.b dX11_odds_105 rfl (lv_at hl 0 rfl) ?_
          obtain ⟨y17, hf17, h⟩ := bd_e h
          refine c_S1 (As := [.int x15, .int (12 : Int32), .int p1]) (rest := []) hC hX hE.2.1 hF hH (c_X11_fraction (l := l) hk hL hE hf17) kw999 kw1000 kw2 kw1001 a_X11_fraction.1 a_X11_fraction.2 rfl hl.1 (rmk hR (by decide) (by decide)) (Nat.le_of_ble_eq_true rfl) dX11_odds_106 (fun H locs hH => ?_)
          rw [hQ]
          exact e_l hC hr hH h dX11_odds_109
        clear ej4
        have hl5 : ∀ (n : Nat) (x6 : Int32) (x7 : Int32) (m8 : gMem) (H : Heap) (locs : List Loc) (ls : Array Slot), lq3 (s_X11_odds_41 j4 L w2) n x6 x7 m8 = some (rv, memz) → gH D cy shX ad L (gA ad L) s.heap m8 H locs → lv_has ls 6 [(0, .ref (ad 0)), (2, .int p1), (3, .ref (ad w2)), (4, .int x6), (5, .int x7)] → W p l e R s m args below meth c H locs 0 0 Q (F0 m 41 ls []) := by
          intro n
          induction n with
          | zero => intro x6 x7 m8 H locs ls h _ _; exact lq3_0 h
          | succ n ih5 =>
            intro x6 x7 m8 H locs ls h hH hl
            obtain ⟨self5, es5, h⟩ := lq3_s h
            refine lv_iload hC.x hC.b dX11_odds_41 (lv_at hl 4 rfl) ?_
            refine lv_bipush (v := 12) hC.x hC.b dX11_odds_43 rfl ?_
            refine b_ic_ge (tgt := 101) hC dX11_odds_45 (by decide) h (fun h => ?_) (fun h => ?_)
            · exact hj4 x6 m8 H locs ls h hH (lv_sub hl [1, 3] rfl)
            · refine lv_aload_n hC.x hC.b dX11_odds_48 rfl (lv_at hl 0 rfl) ?_
              refine r_getc (z := 32) hC hH fl_X11_43_11 (hL _ mX0) sX0 rfl dX11_odds_49 ?_
              refine lv_aload_n hC.x hC.b dX11_odds_52 rfl (lv_at hl 0 rfl) ?_
              refine r_getc (z := 10) hC hH fl_X11_12_11 (hL _ mX0) sX0 rfl dX11_odds_53 ?_
              refine lv_aload_n hC.x hC.b dX11_odds_56 rfl (lv_at hl 2 rfl) ?_
              refine r_geti hC hH (fw_X11_100 _ hww2.2.2.1) hww2.2.2.2.1 (sW0 hww2) rfl dX11_odds_57 ?_
              refine lv_aload_n hC.x hC.b dX11_odds_60 rfl (lv_at hl 0 rfl) ?_
              refine r_getc (z := 10) hC hH fl_X11_12_11 (hL _ mX0) sX0 rfl dX11_odds_61 ?_
              refine r_geti hC hH fl_X11_103_2 (hL _ mX10) sX10 rfl dX11_odds_64 ?_
              refine lv_iload hC.x hC.b dX11_odds_67 (lv_at hl 4 rfl) ?_
              refine lv_iadd hC.x hC.b dX11_odds_69 ?_
              refine lv_iconst (v := 0) hC.x hC.b dX11_odds_70 rfl ?_
              refine lv_aload_n hC.x hC.b dX11_odds_71 rfl (lv_at hl 0 rfl) ?_
              refine r_getc (z := 10) hC hH fl_X11_12_11 (hL _ mX0) sX0 rfl dX11_odds_72 ?_
              refine r_geti hC hH fl_X11_133_2 (hL _ mX10) sX10 rfl dX11_odds_75 ?_
              refine lv_iload hC.x hC.b dX11_odds_78 (lv_at hl 4 rfl) ?_
              refine lv_isub hC.x hC.b dX11_odds_80 ?_
              refine m_max hC hl.1 kw767 kw309 kw310 kw311 (rmM hR (by decide) (Nat.le_of_ble_eq_true rfl)) dX11_odds_81 ?_
              obtain ⟨x10, m9, hf10, h⟩ := bd2_e h
              refine c_V1 (As := [.ref (ad 10), .int (gI m8 w2 2), .int ((gI m8 10 4) + x7), .int (if (0 : Int32) < ((gI m8 10 5) - x7) then ((gI m8 10 5) - x7) else (0 : Int32))]) (rest := []) (o := 32) (q := (RX10, TX10, 10)) hC hX hE.2.1 hF hH (c_X10_follow (l := l) hk hL hE hf10) kw818 kw819 kw820 kw28 kw821 a_X10_follow.1 a_X10_follow.2 (hL _ mX32) sX32 rfl rfl hl.1 (rmk hR (by decide) (by decide)) (Nat.le_of_ble_eq_true rfl) dX11_odds_84 (fun H locs hH => ?_)
              refine lv_bipush (v := -5) hC.x hC.b dX11_odds_87 rfl ?_
              obtain ⟨j11, ej11, h⟩ := jn_e h
              have hj11 : ∀ (x13 : Int32) (H : Heap) (locs : List Loc) (ls : Array Slot), (j11 x13) = some (rv, memz) → gH D cy shX ad L (gA ad L) s.heap m9 H locs → lv_has ls 6 [(0, .ref (ad 0)), (2, .int p1), (3, .ref (ad w2)), (4, .int x13), (5, .int x7)] → W p l e R s m args below meth c H locs 0 0 Q (F0 m 95 ls []) := by
                intro x13 H locs ls h hH hl
                have h := ap1 ej11 h
                refine i_inc (lv' := fun x14 => [(5, .int x14), (0, .ref (ad 0)), (2, .int p1), (3, .ref (ad w2)), (4, .int x13)]) hC dX11_odds_95 hl (k := 4) rfl (by decide) (fun _ => rfl) (z := 1) rfl h (fun x14 ls h hl => ?_)
                refine lv_goto (tgt := 41) hC.x hC.b dX11_odds_98 (by decide) ?_
                exact ih5 x13 x14 m9 H locs ls (ap3 es5 h) hH (lv_sub hl [1, 2, 3, 4, 0] rfl)
              clear ej11
              refine b_ic_ne (tgt := 95) hC dX11_odds_89 (by decide) h (fun h => ?_) (fun h => ?_)
              · exact hj11 x6 H locs ls h hH (lv_sub hl [0, 1, 2, 3, 4] rfl)
              · refine i_inc (lv' := fun x12 => [(4, .int x12), (0, .ref (ad 0)), (2, .int p1), (3, .ref (ad w2)), (5, .int x7)]) hC dX11_odds_92 hl (k := 3) rfl (by decide) (fun _ => rfl) (z := 1) rfl h (fun x12 ls h hl => ?_)
                exact hj11 x12 H locs ls h hH (lv_sub hl [1, 2, 3, 0, 4] rfl)
        exact hl5 _ (0 : Int32) (0 : Int32) m3 H locs ls h hH (lv_sub hl [3, 5, 2, 1, 0] rfl)
      · refine lv_ldc2 (v := -9223372036854775808) hC.x hC.b hC.ow (hC.ts _ kw998) dX11_odds_19 ?_
        rw [hQ]
        exact e_l hC hr hH h dX11_odds_22

theorem fl_X12_72_12 : gFl RX12 72 12 20 := ⟨RX12, TX12, 74, "OnTiptoeModel", rfl, inW12, by decide, kw96, Or.inl rfl⟩
theorem fl_X12_75_12 : gFl RX12 75 12 21 := ⟨RX12, TX12, 74, "OnTiptoeModel", rfl, inW12, by decide, kw97, Or.inl rfl⟩
theorem fl_X12_96_12 : gFl RX12 96 12 28 := ⟨RX12, TX12, 74, "OnTiptoeModel", rfl, inW12, by decide, kw105, Or.inl rfl⟩
theorem a_X12_factOf : noMH yX12_factOf.cls ∧ arity yX12_factOf.desc 4 := by decide +kernel
def s_X12_holds_11 (p0 : Int32) (p1 : Int32) (p2 : Int32) (p3 : Int32) (self2 : Int32 → Int32 → gMem → Option (Int32 × gMem)) (x3 : Int32) (x4 : Int32) (m5 : gMem) : Option (Int32 × gMem) := if okI p0 60 then if (gI m5 11 (ix p0)) ≤ x4 then (if okI (0 : Int32) 100 then if isB (gI m5 15 (ix (0 : Int32))) then some ((gI m5 15 (ix (0 : Int32))), m5) else none else none) else if okI x4 600 then lt1 (gI m5 12 (ix x4)) fun (x6 : Int32) => jn ((fun (x23 : Int32) (m24 : gMem) => lt1 (x4 + (1 : Int32)) fun (x25 : Int32) => (self2 x23 x25 m24)) : Int32 → gMem → Option (Int32 × gMem)) fun j7 => if x6 = (-33 : Int32) then (if okI (x3 - (1 : Int32)) 100 then jn ((fun (x21 : Int32) => if okI (x3 - (1 : Int32)) 100 then lt1 (gsI m5 15 (ix (x3 - (1 : Int32))) (vp_nar .boolean x21)) fun (m22 : gMem) => (j7 x3 m22) else none) : Int32 → Option (Int32 × gMem)) fun j20 => if (gI m5 15 (ix (x3 - (1 : Int32)))) = 0 then ((j20 (1 : Int32))) else (j20 (0 : Int32)) else none) else if 0 ≤ x6 then (bd (f_X12_factOf m5 (x6 / (1000 : Int32)) p1 p2 p3) fun (x8 : Int32) => lt1 ((x6 / (100 : Int32)) - (x6 / (100 : Int32)) / (10 : Int32) * (10 : Int32)) fun (x9 : Int32) => jn ((fun (x11 : Int32) => if okI x3 100 then lt1 (gsI m5 15 (ix x3) (vp_nar .boolean x11)) fun (m12 : gMem) => lt1 (x3 + (1 : Int32)) fun (x13 : Int32) => (j7 x13 m12) else none) : Int32 → Option (Int32 × gMem)) fun j10 => if x9 = 0 then (if (x6 - x6 / (100 : Int32) * (100 : Int32)) ≤ x8 then ((j10 (0 : Int32))) else (j10 (1 : Int32))) else if x9 = (1 : Int32) then (if x8 = (x6 - x6 / (100 : Int32) * (100 : Int32)) then ((j10 (1 : Int32))) else (j10 (0 : Int32))) else if x8 ≤ (x6 - x6 / (100 : Int32) * (100 : Int32)) then ((j10 (0 : Int32))) else (j10 (1 : Int32))) else lt1 (x3 + (-1 : Int32)) fun (x14 : Int32) => jn ((fun (x18 : Int32) => if okI (x14 - (1 : Int32)) 100 then lt1 (gsI m5 15 (ix (x14 - (1 : Int32))) (vp_nar .boolean x18)) fun (m19 : gMem) => (j7 x14 m19) else none) : Int32 → Option (Int32 × gMem)) fun j15 => if x6 = (-38 : Int32) then (if okI (x14 - (1 : Int32)) 100 then jn (((j15 (0 : Int32))) : Option (Int32 × gMem)) fun j17 => if (gI m5 15 (ix (x14 - (1 : Int32)))) = 0 then (j17) else if okI x14 100 then if (gI m5 15 (ix x14)) = 0 then (j17) else (j15 (1 : Int32)) else none else none) else if okI (x14 - (1 : Int32)) 100 then jn (((j15 (1 : Int32))) : Option (Int32 × gMem)) fun j16 => if (gI m5 15 (ix (x14 - (1 : Int32)))) = 0 then (if okI x14 100 then if (gI m5 15 (ix x14)) = 0 then ((j15 (0 : Int32))) else j16 else none) else j16 else none else none else none
def f_X12_holds (mem : gMem) (p0 : Int32) (p1 : Int32) (p2 : Int32) (p3 : Int32) : Option (Int32 × gMem) := if okI p0 60 then lt1 (gI mem 10 (ix p0)) fun (x1 : Int32) => lq3 (s_X12_holds_11 p0 p1 p2 p3) 1000 (0 : Int32) x1 mem else none
set_option maxRecDepth 100000 in
set_option maxHeartbeats 4000000 in
theorem c_X12_holds {l : Launch} {E : State → Prop} {D : va_G} {cy : Nat → ClassId} {ad : Nat → Nat} {L : List Nat} {mem : gMem} {p0 : Int32} {p1 : Int32} {p2 : Int32} {p3 : Int32} {rv : Int32} {memz : gMem} (hk : gOk ad L) (hL : ∀ o ∈ LM0, o ∈ L) (hE : gEok ad L E)  (h : f_X12_holds mem p0 p1 p2 p3 = some (rv, memz)) : gMet l yX12_holds cX12_holds 10 (some .boolean) 1 24 E D cy shM ad L [.ref (ad 0), .int p0, .int p1, .int p2, .int p3] mem memz (some (.int rv)) := by
  refine g_go (own := RX12) (by decide +kernel) rfl hE (Nat.le_of_ble_eq_true rfl) ?_
  intro p e s m args below meth c R Q hargs hR hQ hEs hC hr hX H locs ls hH hl
  have hF := gF_of hk
  have hl : lv_has ls 10 [(0, .ref (ad 0)), (1, .int p0), (2, .int p1), (3, .int p2), (4, .int p3)] := hl
  refine lv_iconst (v := 0) hC.x hC.b dX12_holds_0 rfl ?_
  refine lv_istore (lv' := [(5, .int (0 : Int32)), (0, .ref (ad 0)), (1, .int p0), (2, .int p1), (3, .int p2), (4, .int p3)]) hC.x hC.b dX12_holds_1 hl (by decide) rfl (fun ls hl => ?_)
  refine lv_aload_n hC.x hC.b dX12_holds_3 rfl (lv_at hl 1 rfl) ?_
  refine r_getc (z := 10) hC hH fl_X12_72_12 (hL _ mM0) sM0 rfl dX12_holds_4 ?_
  refine lv_iload_n hC.x hC.b dX12_holds_7 rfl (lv_at hl 2 rfl) ?_
  refine r_iald hC hH (hL _ mM10) sM10 h dX12_holds_8 (fun h => ?_)
  refine n_i h (fun x1 h => ?_)
  refine lv_istore (lv' := [(6, .int x1), (5, .int (0 : Int32)), (0, .ref (ad 0)), (1, .int p0), (2, .int p1), (3, .int p2), (4, .int p3)]) hC.x hC.b dX12_holds_9 hl (by decide) rfl (fun ls hl => ?_)
  have hl2 : ∀ (n : Nat) (x3 : Int32) (x4 : Int32) (m5 : gMem) (H : Heap) (locs : List Loc) (ls : Array Slot), lq3 (s_X12_holds_11 p0 p1 p2 p3) n x3 x4 m5 = some (rv, memz) → gH D cy shM ad L (gA ad L) s.heap m5 H locs → lv_has ls 10 [(0, .ref (ad 0)), (1, .int p0), (2, .int p1), (3, .int p2), (4, .int p3), (5, .int x3), (6, .int x4)] → W p l e R s m args below meth c H locs 0 0 Q (F0 m 11 ls []) := by
    intro n
    induction n with
    | zero => intro x3 x4 m5 H locs ls h _ _; exact lq3_0 h
    | succ n ih2 =>
      intro x3 x4 m5 H locs ls h hH hl
      obtain ⟨self2, es2, h⟩ := lq3_s h
      refine lv_iload hC.x hC.b dX12_holds_11 (lv_at hl 6 rfl) ?_
      refine lv_aload_n hC.x hC.b dX12_holds_13 rfl (lv_at hl 0 rfl) ?_
      refine r_getc (z := 11) hC hH fl_X12_75_12 (hL _ mM0) sM0 rfl dX12_holds_14 ?_
      refine lv_iload_n hC.x hC.b dX12_holds_17 rfl (lv_at hl 1 rfl) ?_
      refine r_iald hC hH (hL _ mM11) sM11 h dX12_holds_18 (fun h => ?_)
      refine b_ic_ge (tgt := 255) hC dX12_holds_19 (by decide) h (fun h => ?_) (fun h => ?_)
      · refine lv_aload_n hC.x hC.b dX12_holds_255 rfl (lv_at hl 0 rfl) ?_
        refine r_getc (z := 15) hC hH fl_X12_96_12 (hL _ mM0) sM0 rfl dX12_holds_256 ?_
        refine lv_iconst (v := 0) hC.x hC.b dX12_holds_259 rfl ?_
        refine r_zald hC hH (hL _ mM15) sM15 h dX12_holds_260 (fun h => ?_)
        rw [hQ]
        exact e_z hC hr hH h dX12_holds_261
      · refine lv_aload_n hC.x hC.b dX12_holds_22 rfl (lv_at hl 0 rfl) ?_
        refine r_getc (z := 12) hC hH fl_X12_78_12 (hL _ mM0) sM0 rfl dX12_holds_23 ?_
        refine lv_iload hC.x hC.b dX12_holds_26 (lv_at hl 6 rfl) ?_
        refine r_iald hC hH (hL _ mM12) sM12 h dX12_holds_28 (fun h => ?_)
        refine n_i h (fun x6 h => ?_)
        refine lv_istore (lv' := [(7, .int x6), (0, .ref (ad 0)), (1, .int p0), (2, .int p1), (3, .int p2), (4, .int p3), (5, .int x3), (6, .int x4)]) hC.x hC.b dX12_holds_29 hl (by decide) rfl (fun ls hl => ?_)
        refine lv_iload hC.x hC.b dX12_holds_31 (lv_at hl 0 rfl) ?_
        refine lv_bipush (v := -33) hC.x hC.b dX12_holds_33 rfl ?_
        obtain ⟨j7, ej7, h⟩ := jn_e h
        have hj7 : ∀ (x23 : Int32) (m24 : gMem) (H : Heap) (locs : List Loc) (ls : Array Slot), (j7 x23 m24) = some (rv, memz) → gH D cy shM ad L (gA ad L) s.heap m24 H locs → lv_has ls 10 [(0, .ref (ad 0)), (1, .int p0), (2, .int p1), (3, .int p2), (4, .int p3), (5, .int x23), (6, .int x4)] → W p l e R s m args below meth c H locs 0 0 Q (F0 m 249 ls []) := by
          intro x23 m24 H locs ls h hH hl
          have h := ap2 ej7 h
          refine i_inc (lv' := fun x25 => [(6, .int x25), (0, .ref (ad 0)), (1, .int p0), (2, .int p1), (3, .int p2), (4, .int p3), (5, .int x23)]) hC dX12_holds_249 hl (k := 6) rfl (by decide) (fun _ => rfl) (z := 1) rfl h (fun x25 ls h hl => ?_)
          refine lv_goto (tgt := 11) hC.x hC.b dX12_holds_252 (by decide) ?_
          exact ih2 x23 x25 m24 H locs ls (ap3 es2 h) hH (lv_sub hl [1, 2, 3, 4, 5, 6, 0] rfl)
        clear ej7
        refine b_ic_ne (tgt := 67) hC dX12_holds_35 (by decide) h (fun h => ?_) (fun h => ?_)
        · refine lv_iload hC.x hC.b dX12_holds_67 (lv_at hl 0 rfl) ?_
          refine b_if_ge (tgt := 151) hC dX12_holds_69 (by decide) h (fun h => ?_) (fun h => ?_)
          · refine lv_aload_n hC.x hC.b dX12_holds_151 rfl (lv_at hl 1 rfl) ?_
            refine lv_iload hC.x hC.b dX12_holds_152 (lv_at hl 0 rfl) ?_
            refine lv_sipush (v := 1000) hC.x hC.b dX12_holds_154 rfl ?_
            refine lv_idiv hC.x hC.b dX12_holds_157 (by decide) ?_
            refine lv_iload_n hC.x hC.b dX12_holds_158 rfl (lv_at hl 3 rfl) ?_
            refine lv_iload_n hC.x hC.b dX12_holds_159 rfl (lv_at hl 4 rfl) ?_
            refine lv_iload hC.x hC.b dX12_holds_160 (lv_at hl 5 rfl) ?_
            obtain ⟨x8, hf8, h⟩ := bd_e h
            refine c_V1 (As := [.int (x6 / (1000 : Int32)), .int p1, .int p2, .int p3]) (rest := []) (o := 0) (q := (RX12, TX12, 74)) hC hX hE.2.1 hF hH (c_X12_factOf (l := l) hk hL hE hf8) kw408 kw409 kw410 kw5 kw411 a_X12_factOf.1 a_X12_factOf.2 (hL _ mM0) sM0 rfl rfl hl.1 (rmk hR (by decide) (by decide)) (Nat.le_of_ble_eq_true rfl) dX12_holds_162 (fun H locs hH => ?_)
            refine lv_istore (lv' := [(8, .int x8), (7, .int x6), (0, .ref (ad 0)), (1, .int p0), (2, .int p1), (3, .int p2), (4, .int p3), (5, .int x3), (6, .int x4)]) hC.x hC.b dX12_holds_165 hl (by decide) rfl (fun ls hl => ?_)
            refine lv_iload hC.x hC.b dX12_holds_167 (lv_at hl 1 rfl) ?_
            refine lv_bipush (v := 100) hC.x hC.b dX12_holds_169 rfl ?_
            refine lv_idiv hC.x hC.b dX12_holds_171 (by decide) ?_
            refine lv_bipush (v := 10) hC.x hC.b dX12_holds_172 rfl ?_
            refine lv_irem hC.x hC.b dX12_holds_174 (by decide) ?_
            refine n_i h (fun x9 h => ?_)
            refine lv_istore (lv' := [(9, .int x9), (8, .int x8), (7, .int x6), (0, .ref (ad 0)), (1, .int p0), (2, .int p1), (3, .int p2), (4, .int p3), (5, .int x3), (6, .int x4)]) hC.x hC.b dX12_holds_175 hl (by decide) rfl (fun ls hl => ?_)
            refine lv_aload_n hC.x hC.b dX12_holds_177 rfl (lv_at hl 3 rfl) ?_
            refine r_getc (z := 15) hC hH fl_X12_96_12 (hL _ mM0) sM0 rfl dX12_holds_178 ?_
            refine lv_iload hC.x hC.b dX12_holds_181 (lv_at hl 8 rfl) ?_
            refine lv_iload hC.x hC.b dX12_holds_183 (lv_at hl 0 rfl) ?_
            obtain ⟨j10, ej10, h⟩ := jn_e h
            have hj10 : ∀ (x11 : Int32) (H : Heap) (locs : List Loc) (ls : Array Slot), (j10 x11) = some (rv, memz) → gH D cy shM ad L (gA ad L) s.heap m5 H locs → lv_has ls 10 [(0, .ref (ad 0)), (1, .int p0), (2, .int p1), (3, .int p2), (4, .int p3), (5, .int x3), (6, .int x4)] → W p l e R s m args below meth c H locs 0 0 Q (F0 m 245 ls [.int x11, .int x3, .ref (ad 15)]) := by
              intro x11 H locs ls h hH hl
              have h := ap1 ej10 h
              refine r_zast hC hF hH (hL _ mM15) sM15 h dX12_holds_245 (fun m12 H locs h hH => ?_)
              refine i_inc (lv' := fun x13 => [(5, .int x13), (0, .ref (ad 0)), (1, .int p0), (2, .int p1), (3, .int p2), (4, .int p3), (6, .int x4)]) hC dX12_holds_246 hl (k := 5) rfl (by decide) (fun _ => rfl) (z := 1) rfl h (fun x13 ls h hl => ?_)
              exact hj7 x13 m12 H locs ls h hH (lv_sub hl [1, 2, 3, 4, 5, 0, 6] rfl)
            clear ej10
            refine b_if_ne (tgt := 206) hC dX12_holds_185 (by decide) h (fun h => ?_) (fun h => ?_)
            · refine lv_iload hC.x hC.b dX12_holds_206 (lv_at hl 0 rfl) ?_
              refine lv_iconst (v := 1) hC.x hC.b dX12_holds_208 rfl ?_
              refine b_ic_ne (tgt := 230) hC dX12_holds_209 (by decide) h (fun h => ?_) (fun h => ?_)
              · refine lv_iload hC.x hC.b dX12_holds_230 (lv_at hl 1 rfl) ?_
                refine lv_iload hC.x hC.b dX12_holds_232 (lv_at hl 2 rfl) ?_
                refine lv_bipush (v := 100) hC.x hC.b dX12_holds_234 rfl ?_
                refine lv_irem hC.x hC.b dX12_holds_236 (by decide) ?_
                refine b_ic_le (tgt := 244) hC dX12_holds_237 (by decide) h (fun h => ?_) (fun h => ?_)
                · refine lv_iconst (v := 0) hC.x hC.b dX12_holds_244 rfl ?_
                  exact hj10 (0 : Int32) H locs ls h hH (lv_sub hl [3, 4, 5, 6, 7, 8, 9] rfl)
                · refine lv_iconst (v := 1) hC.x hC.b dX12_holds_240 rfl ?_
                  refine lv_goto (tgt := 245) hC.x hC.b dX12_holds_241 (by decide) ?_
                  exact hj10 (1 : Int32) H locs ls h hH (lv_sub hl [3, 4, 5, 6, 7, 8, 9] rfl)
              · refine lv_iload hC.x hC.b dX12_holds_212 (lv_at hl 1 rfl) ?_
                refine lv_iload hC.x hC.b dX12_holds_214 (lv_at hl 2 rfl) ?_
                refine lv_bipush (v := 100) hC.x hC.b dX12_holds_216 rfl ?_
                refine lv_irem hC.x hC.b dX12_holds_218 (by decide) ?_
                refine b_ic_ne (tgt := 226) hC dX12_holds_219 (by decide) h (fun h => ?_) (fun h => ?_)
                · refine lv_iconst (v := 0) hC.x hC.b dX12_holds_226 rfl ?_
                  refine lv_goto (tgt := 245) hC.x hC.b dX12_holds_227 (by decide) ?_
                  exact hj10 (0 : Int32) H locs ls h hH (lv_sub hl [3, 4, 5, 6, 7, 8, 9] rfl)
                · refine lv_iconst (v := 1) hC.x hC.b dX12_holds_222 rfl ?_
                  refine lv_goto (tgt := 245) hC.x hC.b dX12_holds_223 (by decide) ?_
                  exact hj10 (1 : Int32) H locs ls h hH (lv_sub hl [3, 4, 5, 6, 7, 8, 9] rfl)
            · refine lv_iload hC.x hC.b dX12_holds_188 (lv_at hl 1 rfl) ?_
              refine lv_iload hC.x hC.b dX12_holds_190 (lv_at hl 2 rfl) ?_
              refine lv_bipush (v := 100) hC.x hC.b dX12_holds_192 rfl ?_
              refine lv_irem hC.x hC.b dX12_holds_194 (by decide) ?_
              refine b_ic_ge (tgt := 202) hC dX12_holds_195 (by decide) h (fun h => ?_) (fun h => ?_)
              · refine lv_iconst (v := 0) hC.x hC.b dX12_holds_202 rfl ?_
                refine lv_goto (tgt := 245) hC.x hC.b dX12_holds_203 (by decide) ?_
                exact hj10 (0 : Int32) H locs ls h hH (lv_sub hl [3, 4, 5, 6, 7, 8, 9] rfl)
              · refine lv_iconst (v := 1) hC.x hC.b dX12_holds_198 rfl ?_
                refine lv_goto (tgt := 245) hC.x hC.b dX12_holds_199 (by decide) ?_
                exact hj10 (1 : Int32) H locs ls h hH (lv_sub hl [3, 4, 5, 6, 7, 8, 9] rfl)
          · refine i_inc (lv' := fun x14 => [(5, .int x14), (7, .int x6), (0, .ref (ad 0)), (1, .int p0), (2, .int p1), (3, .int p2), (4, .int p3), (6, .int x4)]) hC dX12_holds_72 hl (k := 6) rfl (by decide) (fun _ => rfl) (z := -1) rfl h (fun x14 ls h hl => ?_)
            refine lv_aload_n hC.x hC.b dX12_holds_75 rfl (lv_at hl 2 rfl) ?_
            refine r_getc (z := 15) hC hH fl_X12_96_12 (hL _ mM0) sM0 rfl dX12_holds_76 ?_
            refine lv_iload hC.x hC.b dX12_holds_79 (lv_at hl 0 rfl) ?_
            refine lv_iconst (v := 1) hC.x hC.b dX12_holds_81 rfl ?_
            refine lv_isub hC.x hC.b dX12_holds_82 ?_
            refine lv_iload hC.x hC.b dX12_holds_83 (lv_at hl 1 rfl) ?_
            refine lv_bipush (v := -38) hC.x hC.b dX12_holds_85 rfl ?_
            obtain ⟨j15, ej15, h⟩ := jn_e h
            have hj15 : ∀ (x18 : Int32) (H : Heap) (locs : List Loc) (ls : Array Slot), (j15 x18) = some (rv, memz) → gH D cy shM ad L (gA ad L) s.heap m5 H locs → lv_has ls 10 [(0, .ref (ad 0)), (1, .int p0), (2, .int p1), (3, .int p2), (4, .int p3), (5, .int x14), (6, .int x4)] → W p l e R s m args below meth c H locs 0 0 Q (F0 m 147 ls [.int x18, .int (x14 - (1 : Int32)), .ref (ad 15)]) := by
              intro x18 H locs ls h hH hl
              have h := ap1 ej15 h
              refine r_zast hC hF hH (hL _ mM15) sM15 h dX12_holds_147 (fun m19 H locs h hH => ?_)
              refine lv_goto (tgt := 249) hC.x hC.b dX12_holds_148 (by decide) ?_
              exact hj7 x14 m19 H locs ls h hH (lv_sub hl [0, 1, 2, 3, 4, 5, 6] rfl)
            clear ej15
            refine b_ic_ne (tgt := 120) hC dX12_holds_87 (by decide) h (fun h => ?_) (fun h => ?_)
            · refine lv_aload_n hC.x hC.b dX12_holds_120 rfl (lv_at hl 2 rfl) ?_
              refine r_getc (z := 15) hC hH fl_X12_96_12 (hL _ mM0) sM0 rfl dX12_holds_121 ?_
              refine lv_iload hC.x hC.b dX12_holds_124 (lv_at hl 0 rfl) ?_
              refine lv_iconst (v := 1) hC.x hC.b dX12_holds_126 rfl ?_
              refine lv_isub hC.x hC.b dX12_holds_127 ?_
              refine r_zald hC hH (hL _ mM15) sM15 h dX12_holds_128 (fun h => ?_)
              obtain ⟨j16, ej16, h⟩ := jn_e h
              have hj16 : ∀  (H : Heap) (locs : List Loc) (ls : Array Slot), j16 = some (rv, memz) → gH D cy shM ad L (gA ad L) s.heap m5 H locs → lv_has ls 10 [(0, .ref (ad 0)), (1, .int p0), (2, .int p1), (3, .int p2), (4, .int p3), (5, .int x14), (6, .int x4)] → W p l e R s m args below meth c H locs 0 0 Q (F0 m 142 ls [.int (x14 - (1 : Int32)), .ref (ad 15)]) := by
                intro H locs ls h hH hl
                have h := ap0 ej16 h
                refine lv_iconst (v := 1) hC.x hC.b dX12_holds_142 rfl ?_
                refine lv_goto (tgt := 147) hC.x hC.b dX12_holds_143 (by decide) ?_
                exact hj15 (1 : Int32) H locs ls h hH (lv_sub hl [0, 1, 2, 3, 4, 5, 6] rfl)
              clear ej16
              refine b_if_ne (tgt := 142) hC dX12_holds_129 (by decide) h (fun h => ?_) (fun h => ?_)
              · exact hj16  H locs ls h hH (lv_sub hl [2, 3, 4, 5, 6, 0, 7] rfl)
              · refine lv_aload_n hC.x hC.b dX12_holds_132 rfl (lv_at hl 2 rfl) ?_
                refine r_getc (z := 15) hC hH fl_X12_96_12 (hL _ mM0) sM0 rfl dX12_holds_133 ?_
                refine lv_iload hC.x hC.b dX12_holds_136 (lv_at hl 0 rfl) ?_
                refine r_zald hC hH (hL _ mM15) sM15 h dX12_holds_138 (fun h => ?_)
                refine b_if_eq (tgt := 146) hC dX12_holds_139 (by decide) h (fun h => ?_) (fun h => ?_)
                · refine lv_iconst (v := 0) hC.x hC.b dX12_holds_146 rfl ?_
                  exact hj15 (0 : Int32) H locs ls h hH (lv_sub hl [2, 3, 4, 5, 6, 0, 7] rfl)
                · exact hj16  H locs ls h hH (lv_sub hl [2, 3, 4, 5, 6, 0, 7] rfl)
            · refine lv_aload_n hC.x hC.b dX12_holds_90 rfl (lv_at hl 2 rfl) ?_
              refine r_getc (z := 15) hC hH fl_X12_96_12 (hL _ mM0) sM0 rfl dX12_holds_91 ?_
              refine lv_iload hC.x hC.b dX12_holds_94 (lv_at hl 0 rfl) ?_
              refine lv_iconst (v := 1) hC.x hC.b dX12_holds_96 rfl ?_
              refine lv_isub hC.x hC.b dX12_holds_97 ?_
              refine r_zald hC hH (hL _ mM15) sM15 h dX12_holds_98 (fun h => ?_)
              obtain ⟨j17, ej17, h⟩ := jn_e h
              have hj17 : ∀  (H : Heap) (locs : List Loc) (ls : Array Slot), j17 = some (rv, memz) → gH D cy shM ad L (gA ad L) s.heap m5 H locs → lv_has ls 10 [(0, .ref (ad 0)), (1, .int p0), (2, .int p1), (3, .int p2), (4, .int p3), (5, .int x14), (6, .int x4)] → W p l e R s m args below meth c H locs 0 0 Q (F0 m 116 ls [.int (x14 - (1 : Int32)), .ref (ad 15)]) := by
                intro H locs ls h hH hl
                have h := ap0 ej17 h
                refine lv_iconst (v := 0) hC.x hC.b dX12_holds_116 rfl ?_
                refine lv_goto (tgt := 147) hC.x hC.b dX12_holds_117 (by decide) ?_
                exact hj15 (0 : Int32) H locs ls h hH (lv_sub hl [0, 1, 2, 3, 4, 5, 6] rfl)
              clear ej17
              refine b_if_eq (tgt := 116) hC dX12_holds_99 (by decide) h (fun h => ?_) (fun h => ?_)
              · exact hj17  H locs ls h hH (lv_sub hl [2, 3, 4, 5, 6, 0, 7] rfl)
              · refine lv_aload_n hC.x hC.b dX12_holds_102 rfl (lv_at hl 2 rfl) ?_
                refine r_getc (z := 15) hC hH fl_X12_96_12 (hL _ mM0) sM0 rfl dX12_holds_103 ?_
                refine lv_iload hC.x hC.b dX12_holds_106 (lv_at hl 0 rfl) ?_
                refine r_zald hC hH (hL _ mM15) sM15 h dX12_holds_108 (fun h => ?_)
                refine b_if_eq (tgt := 116) hC dX12_holds_109 (by decide) h (fun h => ?_) (fun h => ?_)
                · exact hj17  H locs ls h hH (lv_sub hl [2, 3, 4, 5, 6, 0, 7] rfl)
                · refine lv_iconst (v := 1) hC.x hC.b dX12_holds_112 rfl ?_
                  refine lv_goto (tgt := 147) hC.x hC.b dX12_holds_113 (by decide) ?_
                  exact hj15 (1 : Int32) H locs ls h hH (lv_sub hl [2, 3, 4, 5, 6, 0, 7] rfl)
        · refine lv_aload_n hC.x hC.b dX12_holds_38 rfl (lv_at hl 1 rfl) ?_
          refine r_getc (z := 15) hC hH fl_X12_96_12 (hL _ mM0) sM0 rfl dX12_holds_39 ?_
          refine lv_iload hC.x hC.b dX12_holds_42 (lv_at hl 6 rfl) ?_
          refine lv_iconst (v := 1) hC.x hC.b dX12_holds_44 rfl ?_
          refine lv_isub hC.x hC.b dX12_holds_45 ?_
          refine lv_aload_n hC.x hC.b dX12_holds_46 rfl (lv_at hl 1 rfl) ?_
          refine r_getc (z := 15) hC hH fl_X12_96_12 (hL _ mM0) sM0 rfl dX12_holds_47 ?_
          refine lv_iload hC.x hC.b dX12_holds_50 (lv_at hl 6 rfl) ?_
          refine lv_iconst (v := 1) hC.x hC.b dX12_holds_52 rfl ?_
          refine lv_isub hC.x hC.b dX12_holds_53 ?_
          refine r_zald hC hH (hL _ mM15) sM15 h dX12_holds_54 (fun h => ?_)
          obtain ⟨j20, ej20, h⟩ := jn_e h
          have hj20 : ∀ (x21 : Int32) (H : Heap) (locs : List Loc) (ls : Array Slot), (j20 x21) = some (rv, memz) → gH D cy shM ad L (gA ad L) s.heap m5 H locs → lv_has ls 10 [(0, .ref (ad 0)), (1, .int p0), (2, .int p1), (3, .int p2), (4, .int p3), (5, .int x3), (6, .int x4)] → W p l e R s m args below meth c H locs 0 0 Q (F0 m 63 ls [.int x21, .int (x3 - (1 : Int32)), .ref (ad 15)]) := by
            intro x21 H locs ls h hH hl
            have h := ap1 ej20 h
            refine r_zast hC hF hH (hL _ mM15) sM15 h dX12_holds_63 (fun m22 H locs h hH => ?_)
            refine lv_goto (tgt := 249) hC.x hC.b dX12_holds_64 (by decide) ?_
            exact hj7 x3 m22 H locs ls h hH (lv_sub hl [0, 1, 2, 3, 4, 5, 6] rfl)
          clear ej20
          refine b_if_ne (tgt := 62) hC dX12_holds_55 (by decide) h (fun h => ?_) (fun h => ?_)
          · refine lv_iconst (v := 0) hC.x hC.b dX12_holds_62 rfl ?_
            exact hj20 (0 : Int32) H locs ls h hH (lv_sub hl [1, 2, 3, 4, 5, 6, 7] rfl)
          · refine lv_iconst (v := 1) hC.x hC.b dX12_holds_58 rfl ?_
            refine lv_goto (tgt := 63) hC.x hC.b dX12_holds_59 (by decide) ?_
            exact hj20 (1 : Int32) H locs ls h hH (lv_sub hl [1, 2, 3, 4, 5, 6, 7] rfl)
  exact hl2 _ (0 : Int32) x1 mem H locs ls h hH (lv_sub hl [2, 3, 4, 5, 6, 1, 0] rfl)
theorem a_X12_begin : noMH yX12_begin.cls ∧ arity yX12_begin.desc 0 := by decide +kernel
theorem a_X12_behind : noMH yX12_behind.cls ∧ arity yX12_behind.desc 0 := by decide +kernel
theorem fl_X12_66_12 : gFl RX12 66 12 18 := ⟨RX12, TX12, 74, "OnTiptoeModel", rfl, inW12, by decide, kw94, Or.inl rfl⟩
def s_X12_hasDeep_5 (mem : gMem) (self2 : Int32 → Option Int32) (x3 : Int32) : Option Int32 := bd (f_X12_behind mem) fun (x4 : Int32) => if x4 ≤ x3 then (some (0 : Int32)) else if okI x3 60 then if (gI mem 8 (ix x3)) = 0 then (some (1 : Int32)) else lt1 (x3 + (1 : Int32)) fun (x5 : Int32) => (self2 x5) else none
def f_X12_hasDeep (mem : gMem) : Option Int32 := bd (f_X12_begin mem) fun (x1 : Int32) => lq1 (s_X12_hasDeep_5 mem) 1000 x1
set_option maxRecDepth 100000 in
set_option maxHeartbeats 4000000 in
theorem c_X12_hasDeep {l : Launch} {E : State → Prop} {D : va_G} {cy : Nat → ClassId} {ad : Nat → Nat} {L : List Nat} {mem : gMem} {rv : Int32} (hk : gOk ad L) (hL : ∀ o ∈ LM0, o ∈ L) (hE : gEok ad L E)  (h : f_X12_hasDeep mem = some rv) : gMet l yX12_hasDeep cX12_hasDeep 2 (some .boolean) 1 20 E D cy shM ad L [.ref (ad 0)] mem mem (some (.int rv)) := by
  refine g_go (own := RX12) (by decide +kernel) rfl hE (Nat.le_of_ble_eq_true rfl) ?_
  intro p e s m args below meth c R Q hargs hR hQ hEs hC hr hX H locs ls hH hl
  have hF := gF_of hk
  have hl : lv_has ls 2 [(0, .ref (ad 0))] := hl
  refine lv_aload_n hC.x hC.b dX12_hasDeep_0 rfl (lv_at hl 0 rfl) ?_
  obtain ⟨x1, hf1, h⟩ := bd_e h
  refine c_V1 (As := []) (rest := []) (o := 0) (q := (RX12, TX12, 74)) hC hX hE.2.1 hF hH (c_X12_begin (l := l) hk hL hE hf1) kw396 kw397 kw398 kw5 kw399 a_X12_begin.1 a_X12_begin.2 (hL _ mM0) sM0 rfl rfl hl.1 (rmk hR (by decide) (by decide)) (Nat.le_of_ble_eq_true rfl) dX12_hasDeep_1 (fun H locs hH => ?_)
  refine lv_istore_n (lv' := [(1, .int x1), (0, .ref (ad 0))]) hC.x hC.b dX12_hasDeep_4 rfl hl (by decide) rfl (fun ls hl => ?_)
  have hl2 : ∀ (n : Nat) (x3 : Int32) (H : Heap) (locs : List Loc) (ls : Array Slot), lq1 (s_X12_hasDeep_5 mem) n x3 = some rv → gH D cy shM ad L (gA ad L) s.heap mem H locs → lv_has ls 2 [(0, .ref (ad 0)), (1, .int x3)] → W p l e R s m args below meth c H locs 0 0 Q (F0 m 5 ls []) := by
    intro n
    induction n with
    | zero => intro x3 H locs ls h _ _; exact lq1_0 h
    | succ n ih2 =>
      intro x3 H locs ls h hH hl
      obtain ⟨self2, es2, h⟩ := lq1_s h
      refine lv_iload_n hC.x hC.b dX12_hasDeep_5 rfl (lv_at hl 1 rfl) ?_
      refine lv_aload_n hC.x hC.b dX12_hasDeep_6 rfl (lv_at hl 0 rfl) ?_
      obtain ⟨x4, hf4, h⟩ := bd_e h
      refine c_V1 (As := []) (rest := [.int x3]) (o := 0) (q := (RX12, TX12, 74)) hC hX hE.2.1 hF hH (c_X12_behind (l := l) hk hL hE hf4) kw400 kw401 kw402 kw5 kw403 a_X12_behind.1 a_X12_behind.2 (hL _ mM0) sM0 rfl rfl hl.1 (rmk hR (by decide) (by decide)) (Nat.le_of_ble_eq_true rfl) dX12_hasDeep_7 (fun H locs hH => ?_)
      refine b_ic_ge (tgt := 30) hC dX12_hasDeep_10 (by decide) h (fun h => ?_) (fun h => ?_)
      · refine lv_iconst (v := 0) hC.x hC.b dX12_hasDeep_30 rfl ?_
        rw [hQ]
        exact e_nr hC hr rfl hH h dX12_hasDeep_31
      · refine lv_aload_n hC.x hC.b dX12_hasDeep_13 rfl (lv_at hl 0 rfl) ?_
        refine r_getc (z := 8) hC hH fl_X12_66_12 (hL _ mM0) sM0 rfl dX12_hasDeep_14 ?_
        refine lv_iload_n hC.x hC.b dX12_hasDeep_17 rfl (lv_at hl 1 rfl) ?_
        refine r_iald hC hH (hL _ mM8) sM8 h dX12_hasDeep_18 (fun h => ?_)
        refine b_if_ne (tgt := 24) hC dX12_hasDeep_19 (by decide) h (fun h => ?_) (fun h => ?_)
        · refine i_inc (lv' := fun x5 => [(1, .int x5), (0, .ref (ad 0))]) hC dX12_hasDeep_24 hl (k := 1) rfl (by decide) (fun _ => rfl) (z := 1) rfl h (fun x5 ls h hl => ?_)
          refine lv_goto (tgt := 5) hC.x hC.b dX12_hasDeep_27 (by decide) ?_
          exact ih2 x5 H locs ls (ap1 es2 h) hH (lv_sub hl [1, 0] rfl)
        · refine lv_iconst (v := 1) hC.x hC.b dX12_hasDeep_22 rfl ?_
          rw [hQ]
          exact e_nr hC hr rfl hH h dX12_hasDeep_23
  exact hl2 _ x1 H locs ls h hH (lv_sub hl [1, 0] rfl)
def f_X12_still (mem : gMem) (p0 : Int32) : Option (Int32 × gMem) := bd (f_X12_in p0 (0 : Int32) (30 : Int32)) fun (x1 : Int32) => if x1 = 0 then (some ((-2 : Int32), mem)) else if (gI mem 0 1) ≤ (9960 : Int32) then (lt1 (gsI mem 0 1 ((gI mem 0 1) + p0)) fun (m2 : gMem) => jn ((fun (x4 : Int32) => lt1 (gsI m2 0 2 x4) fun (m5 : gMem) => some ((gI m5 0 1), m5)) : Int32 → Option (Int32 × gMem)) fun j3 => if p0 ≤ (gI m2 0 2) then ((j3 ((gI m2 0 2) - p0))) else (j3 (0 : Int32))) else some ((-3 : Int32), mem)
set_option maxRecDepth 100000 in
set_option maxHeartbeats 4000000 in
theorem c_X12_still {l : Launch} {E : State → Prop} {D : va_G} {cy : Nat → ClassId} {ad : Nat → Nat} {L : List Nat} {mem : gMem} {p0 : Int32} {rv : Int32} {memz : gMem} (hk : gOk ad L) (hL : ∀ o ∈ LM0, o ∈ L) (hE : gEok ad L E)  (h : f_X12_still mem p0 = some (rv, memz)) : gMet l yX12_still cX12_still 2 (some .int) 1 23 E D cy shM ad L [.ref (ad 0), .int p0] mem memz (some (.int rv)) := by
  refine g_go (own := RX12) (by decide +kernel) rfl hE (Nat.le_of_ble_eq_true rfl) ?_
  intro p e s m args below meth c R Q hargs hR hQ hEs hC hr hX H locs ls hH hl
  have hF := gF_of hk
  have hl : lv_has ls 2 [(0, .ref (ad 0)), (1, .int p0)] := hl
  refine lv_aload_n hC.x hC.b dX12_still_0 rfl (lv_at hl 0 rfl) ?_
  refine lv_iload_n hC.x hC.b dX12_still_1 rfl (lv_at hl 1 rfl) ?_
  refine lv_iconst (v := 0) hC.x hC.b dX12_still_2 rfl ?_
  refine lv_bipush (v := 30) hC.x hC.b dX12_still_3 rfl ?_
  obtain ⟨x1, hf1, h⟩ := bd_e h
  refine c_V1 (As := [.int p0, .int (0 : Int32), .int (30 : Int32)]) (rest := []) (o := 0) (q := (RX12, TX12, 74)) hC hX hE.2.1 hF hH (c_X12_in (l := l) hk hL hE hf1) kw167 kw168 kw169 kw5 kw170 a_X12_in.1 a_X12_in.2 (hL _ mM0) sM0 rfl rfl hl.1 (rmk hR (by decide) (by decide)) (Nat.le_of_ble_eq_true rfl) dX12_still_5 (fun H locs hH => ?_)
  refine b_if_ne (tgt := 14) hC dX12_still_8 (by decide) h (fun h => ?_) (fun h => ?_)
  · refine lv_aload_n hC.x hC.b dX12_still_14 rfl (lv_at hl 0 rfl) ?_
    refine r_geti hC hH fl_X12_13_12 (hL _ mM0) sM0 rfl dX12_still_15 ?_
    refine lv_sipush (v := 9960) hC.x hC.b dX12_still_18 rfl ?_
    refine b_ic_le (tgt := 27) hC dX12_still_21 (by decide) h (fun h => ?_) (fun h => ?_)
    · refine lv_aload_n hC.x hC.b dX12_still_27 rfl (lv_at hl 0 rfl) ?_
      refine lv_dup hC.x hC.b dX12_still_28 rfl ?_
      refine r_geti hC hH fl_X12_13_12 (hL _ mM0) sM0 rfl dX12_still_29 ?_
      refine lv_iload_n hC.x hC.b dX12_still_32 rfl (lv_at hl 1 rfl) ?_
      refine lv_iadd hC.x hC.b dX12_still_33 ?_
      refine r_puti hC hF hH pl_X12_13_12 (hL _ mM0) sM0 rfl h dX12_still_34 (fun m2 H locs h hH => ?_)
      refine lv_aload_n hC.x hC.b dX12_still_37 rfl (lv_at hl 0 rfl) ?_
      refine lv_aload_n hC.x hC.b dX12_still_38 rfl (lv_at hl 0 rfl) ?_
      refine r_geti hC hH fl_X12_16_12 (hL _ mM0) sM0 rfl dX12_still_39 ?_
      refine lv_iload_n hC.x hC.b dX12_still_42 rfl (lv_at hl 1 rfl) ?_
      obtain ⟨j3, ej3, h⟩ := jn_e h
      have hj3 : ∀ (x4 : Int32) (H : Heap) (locs : List Loc) (ls : Array Slot), (j3 x4) = some (rv, memz) → gH D cy shM ad L (gA ad L) s.heap m2 H locs → lv_has ls 2 [(0, .ref (ad 0))] → W p l e R s m args below meth c H locs 0 0 Q (F0 m 56 ls [.int x4, .ref (ad 0)]) := by
        intro x4 H locs ls h hH hl
        have h := ap1 ej3 h
        refine r_puti hC hF hH pl_X12_16_12 (hL _ mM0) sM0 rfl h dX12_still_56 (fun m5 H locs h hH => ?_)
        refine lv_aload_n hC.x hC.b dX12_still_59 rfl (lv_at hl 0 rfl) ?_
        refine r_geti hC hH fl_X12_13_12 (hL _ mM0) sM0 rfl dX12_still_60 ?_
        rw [hQ]
        exact e_i hC hr hH h dX12_still_63
      clear ej3
      refine b_ic_ge (tgt := 50) hC dX12_still_43 (by decide) h (fun h => ?_) (fun h => ?_)
      · refine lv_aload_n hC.x hC.b dX12_still_50 rfl (lv_at hl 0 rfl) ?_
        refine r_geti hC hH fl_X12_16_12 (hL _ mM0) sM0 rfl dX12_still_51 ?_
        refine lv_iload_n hC.x hC.b dX12_still_54 rfl (lv_at hl 1 rfl) ?_
        refine lv_isub hC.x hC.b dX12_still_55 ?_
        exact hj3 ((gI m2 0 2) - p0) H locs ls h hH (lv_sub hl [0] rfl)
      · refine lv_iconst (v := 0) hC.x hC.b dX12_still_46 rfl ?_
        refine lv_goto (tgt := 56) hC.x hC.b dX12_still_47 (by decide) ?_
        exact hj3 (0 : Int32) H locs ls h hH (lv_sub hl [0] rfl)
    · refine lv_bipush (v := -3) hC.x hC.b dX12_still_24 rfl ?_
      rw [hQ]
      exact e_i hC hr hH h dX12_still_26
  · refine lv_bipush (v := -2) hC.x hC.b dX12_still_11 rfl ?_
    rw [hQ]
    exact e_i hC hr hH h dX12_still_13
theorem a_X12_divisor : noMH yX12_divisor.cls ∧ arity yX12_divisor.desc 2 := by decide +kernel
def f_X12_lowest (p0 : Int32) (p1 : Int32) (p2 : Int32) : Option Int64 := bd (f_X12_divisor p0 p1) fun (x1 : Int32) => if p2 = 0 then (if ¬ x1 = 0 then some ((p0 / x1).toInt64) else none) else if ¬ x1 = 0 then some ((p1 / x1).toInt64) else none
set_option maxRecDepth 100000 in
set_option maxHeartbeats 4000000 in
theorem c_X12_lowest {l : Launch} {E : State → Prop} {D : va_G} {cy : Nat → ClassId} {ad : Nat → Nat} {L : List Nat} {mem : gMem} {p0 : Int32} {p1 : Int32} {p2 : Int32} {rv : Int64} (hk : gOk ad L) (hL : ∀ o ∈ LM0, o ∈ L) (hE : gEok ad L E)  (h : f_X12_lowest p0 p1 p2 = some rv) : gMet l yX12_lowest cX12_lowest 5 (some .long) 1 25 E D cy shM ad L [.ref (ad 0), .int p0, .int p1, .int p2] mem mem (some (.long rv)) := by
  refine g_go (own := RX12) (by decide +kernel) rfl hE (Nat.le_of_ble_eq_true rfl) ?_
  intro p e s m args below meth c R Q hargs hR hQ hEs hC hr hX H locs ls hH hl
  have hF := gF_of hk
  have hl : lv_has ls 5 [(0, .ref (ad 0)), (1, .int p0), (2, .int p1), (3, .int p2)] := hl
  refine lv_aload_n hC.x hC.b dX12_lowest_0 rfl (lv_at hl 0 rfl) ?_
  refine lv_iload_n hC.x hC.b dX12_lowest_1 rfl (lv_at hl 1 rfl) ?_
  refine lv_iload_n hC.x hC.b dX12_lowest_2 rfl (lv_at hl 2 rfl) ?_
  obtain ⟨x1, hf1, h⟩ := bd_e h
  refine c_V1 (As := [.int p0, .int p1]) (rest := []) (o := 0) (q := (RX12, TX12, 74)) hC hX hE.2.1 hF hH (c_X12_divisor (l := l) hk hL hE hf1) kw1011 kw1012 kw1013 kw5 kw1014 a_X12_divisor.1 a_X12_divisor.2 (hL _ mM0) sM0 rfl rfl hl.1 (rmk hR (by decide) (by decide)) (Nat.le_of_ble_eq_true rfl) dX12_lowest_3 (fun H locs hH => ?_)
  refine lv_istore (lv' := [(4, .int x1), (0, .ref (ad 0)), (1, .int p0), (2, .int p1), (3, .int p2)]) hC.x hC.b dX12_lowest_6 hl (by decide) rfl (fun ls hl => ?_)
  refine lv_iload_n hC.x hC.b dX12_lowest_8 rfl (lv_at hl 4 rfl) ?_
  refine b_if_ne (tgt := 20) hC dX12_lowest_9 (by decide) h (fun h => ?_) (fun h => ?_)
  · refine lv_iload_n hC.x hC.b dX12_lowest_20 rfl (lv_at hl 3 rfl) ?_
    refine lv_iload hC.x hC.b dX12_lowest_21 (lv_at hl 0 rfl) ?_
    refine r_idiv hC dX12_lowest_23 h (fun h => ?_)
    refine lv_i2l hC.x hC.b dX12_lowest_24 rfl ?_
    rw [hQ]
    exact e_lr hC hr hH h dX12_lowest_25
  · refine lv_iload_n hC.x hC.b dX12_lowest_12 rfl (lv_at hl 2 rfl) ?_
    refine lv_iload hC.x hC.b dX12_lowest_13 (lv_at hl 0 rfl) ?_
    refine r_idiv hC dX12_lowest_15 h (fun h => ?_)
    refine lv_i2l hC.x hC.b dX12_lowest_16 rfl ?_
    refine lv_goto (tgt := 25) hC.x hC.b dX12_lowest_17 (by decide) ?_
    rw [hQ]
    exact e_lr hC hr hH h dX12_lowest_25
def f_X12_book (mem : gMem) (p0 : Int32) : Option (Int32 × gMem) := if p0 = (-1 : Int32) then (lt1 (gsI mem 0 45 (0 : Int32)) fun (m4 : gMem) => some ((0 : Int32), m4)) else bd (f_X12_in p0 (0 : Int32) (999 : Int32)) fun (x1 : Int32) => if x1 = 0 then (some ((-2 : Int32), mem)) else if (gI mem 0 45) = (12 : Int32) then (some ((-4 : Int32), mem)) else if okI (gI mem 0 45) 12 then lt1 (gsI mem 24 (ix (gI mem 0 45)) p0) fun (m2 : gMem) => lt1 (gsI m2 0 45 ((gI m2 0 45) + (1 : Int32))) fun (m3 : gMem) => some ((gI m3 0 45), m3) else none
set_option maxRecDepth 100000 in
set_option maxHeartbeats 4000000 in
theorem c_X12_book {l : Launch} {E : State → Prop} {D : va_G} {cy : Nat → ClassId} {ad : Nat → Nat} {L : List Nat} {mem : gMem} {p0 : Int32} {rv : Int32} {memz : gMem} (hk : gOk ad L) (hL : ∀ o ∈ LM0, o ∈ L) (hE : gEok ad L E)  (h : f_X12_book mem p0 = some (rv, memz)) : gMet l yX12_book cX12_book 2 (some .int) 1 23 E D cy shM ad L [.ref (ad 0), .int p0] mem memz (some (.int rv)) := by
  refine g_go (own := RX12) (by decide +kernel) rfl hE (Nat.le_of_ble_eq_true rfl) ?_
  intro p e s m args below meth c R Q hargs hR hQ hEs hC hr hX H locs ls hH hl
  have hF := gF_of hk
  have hl : lv_has ls 2 [(0, .ref (ad 0)), (1, .int p0)] := hl
  refine lv_iload_n hC.x hC.b dX12_book_0 rfl (lv_at hl 1 rfl) ?_
  refine lv_iconst (v := -1) hC.x hC.b dX12_book_1 rfl ?_
  refine b_ic_ne (tgt := 12) hC dX12_book_2 (by decide) h (fun h => ?_) (fun h => ?_)
  · refine lv_aload_n hC.x hC.b dX12_book_12 rfl (lv_at hl 0 rfl) ?_
    refine lv_iload_n hC.x hC.b dX12_book_13 rfl (lv_at hl 1 rfl) ?_
    refine lv_iconst (v := 0) hC.x hC.b dX12_book_14 rfl ?_
    refine lv_sipush (v := 999) hC.x hC.b dX12_book_15 rfl ?_
    obtain ⟨x1, hf1, h⟩ := bd_e h
    refine c_V1 (As := [.int p0, .int (0 : Int32), .int (999 : Int32)]) (rest := []) (o := 0) (q := (RX12, TX12, 74)) hC hX hE.2.1 hF hH (c_X12_in (l := l) hk hL hE hf1) kw167 kw168 kw169 kw5 kw170 a_X12_in.1 a_X12_in.2 (hL _ mM0) sM0 rfl rfl hl.1 (rmk hR (by decide) (by decide)) (Nat.le_of_ble_eq_true rfl) dX12_book_18 (fun H locs hH => ?_)
    refine b_if_ne (tgt := 27) hC dX12_book_21 (by decide) h (fun h => ?_) (fun h => ?_)
    · refine lv_aload_n hC.x hC.b dX12_book_27 rfl (lv_at hl 0 rfl) ?_
      refine r_geti hC hH fl_X12_148_12 (hL _ mM0) sM0 rfl dX12_book_28 ?_
      refine lv_bipush (v := 12) hC.x hC.b dX12_book_31 rfl ?_
      refine b_ic_ne (tgt := 39) hC dX12_book_33 (by decide) h (fun h => ?_) (fun h => ?_)
      · refine lv_aload_n hC.x hC.b dX12_book_39 rfl (lv_at hl 0 rfl) ?_
        refine r_getc (z := 24) hC hH fl_X12_151_12 (hL _ mM0) sM0 rfl dX12_book_40 ?_
        refine lv_aload_n hC.x hC.b dX12_book_43 rfl (lv_at hl 0 rfl) ?_
        refine r_geti hC hH fl_X12_148_12 (hL _ mM0) sM0 rfl dX12_book_44 ?_
        refine lv_iload_n hC.x hC.b dX12_book_47 rfl (lv_at hl 1 rfl) ?_
        refine r_iast hC hF hH (hL _ mM24) sM24 h dX12_book_48 (fun m2 H locs h hH => ?_)
        refine lv_aload_n hC.x hC.b dX12_book_49 rfl (lv_at hl 0 rfl) ?_
        refine lv_dup hC.x hC.b dX12_book_50 rfl ?_
        refine r_geti hC hH fl_X12_148_12 (hL _ mM0) sM0 rfl dX12_book_51 ?_
        refine lv_iconst (v := 1) hC.x hC.b dX12_book_54 rfl ?_
        refine lv_iadd hC.x hC.b dX12_book_55 ?_
        refine r_puti hC hF hH pl_X12_148_12 (hL _ mM0) sM0 rfl h dX12_book_56 (fun m3 H locs h hH => ?_)
        refine lv_aload_n hC.x hC.b dX12_book_59 rfl (lv_at hl 0 rfl) ?_
        refine r_geti hC hH fl_X12_148_12 (hL _ mM0) sM0 rfl dX12_book_60 ?_
        rw [hQ]
        exact e_i hC hr hH h dX12_book_63
      · refine lv_bipush (v := -4) hC.x hC.b dX12_book_36 rfl ?_
        rw [hQ]
        exact e_i hC hr hH h dX12_book_38
    · refine lv_bipush (v := -2) hC.x hC.b dX12_book_24 rfl ?_
      rw [hQ]
      exact e_i hC hr hH h dX12_book_26
  · refine lv_aload_n hC.x hC.b dX12_book_5 rfl (lv_at hl 0 rfl) ?_
    refine lv_iconst (v := 0) hC.x hC.b dX12_book_6 rfl ?_
    refine r_puti hC hF hH pl_X12_148_12 (hL _ mM0) sM0 rfl h dX12_book_7 (fun m4 H locs h hH => ?_)
    refine lv_iconst (v := 0) hC.x hC.b dX12_book_10 rfl ?_
    rw [hQ]
    exact e_i hC hr hH h dX12_book_11
theorem a_X12_body : noMH yX12_body.cls ∧ arity yX12_body.desc 1 := by decide +kernel
def f_X12_walkerTreads (mem : gMem) (p0 : Int32) (p1 : Int32) : Option (Int32 × gMem) := bd (f_X12_body mem (10 : Int32)) fun (m1 : gMem) => some ((p1 + p0), m1)
set_option maxRecDepth 100000 in
set_option maxHeartbeats 4000000 in
theorem c_X12_walkerTreads {l : Launch} {E : State → Prop} {D : va_G} {cy : Nat → ClassId} {ad : Nat → Nat} {L : List Nat} {mem : gMem} {p0 : Int32} {p1 : Int32} {rv : Int32} {memz : gMem} (hk : gOk ad L) (hL : ∀ o ∈ LM0, o ∈ L) (hE : gEok ad L E)  (h : f_X12_walkerTreads mem p0 p1 = some (rv, memz)) : gMet l yX12_walkerTreads cX12_walkerTreads 3 (some .int) 1 21 E D cy shM ad L [.ref (ad 0), .int p0, .int p1] mem memz (some (.int rv)) := by
  refine g_go (own := RX12) (by decide +kernel) rfl hE (Nat.le_of_ble_eq_true rfl) ?_
  intro p e s m args below meth c R Q hargs hR hQ hEs hC hr hX H locs ls hH hl
  have hF := gF_of hk
  have hl : lv_has ls 3 [(0, .ref (ad 0)), (1, .int p0), (2, .int p1)] := hl
  refine lv_aload_n hC.x hC.b dX12_walkerTreads_0 rfl (lv_at hl 0 rfl) ?_
  refine lv_bipush (v := 10) hC.x hC.b dX12_walkerTreads_1 rfl ?_
  obtain ⟨m1, hf1, h⟩ := bd_e h
  refine c_V0 (As := [.int (10 : Int32)]) (rest := []) (o := 0) (q := (RX12, TX12, 74)) hC hX hE.2.1 hF hH (c_X12_body (l := l) hk hL hE hf1) kw1242 kw1243 kw1244 kw5 kw1245 a_X12_body.1 a_X12_body.2 (hL _ mM0) sM0 rfl rfl hl.1 (rmk hR (by decide) (by decide)) (Nat.le_of_ble_eq_true rfl) dX12_walkerTreads_3 (fun H locs hH => ?_)
  refine lv_iload_n hC.x hC.b dX12_walkerTreads_6 rfl (lv_at hl 2 rfl) ?_
  refine lv_iload_n hC.x hC.b dX12_walkerTreads_7 rfl (lv_at hl 1 rfl) ?_
  refine lv_iadd hC.x hC.b dX12_walkerTreads_8 ?_
  rw [hQ]
  exact e_i hC hr hH h dX12_walkerTreads_9
def f_X12_trace (mem : gMem) (p0 : Int32) : Option Int32 := bd (f_X12_in p0 (0 : Int32) (19 : Int32)) fun (x1 : Int32) => if x1 = 0 then (some (-1 : Int32)) else if (gI mem 0 68) ≤ p0 then (some (-1 : Int32)) else if okI p0 20 then some (gI mem 35 (ix p0)) else none
set_option maxRecDepth 100000 in
set_option maxHeartbeats 4000000 in
theorem c_X12_trace {l : Launch} {E : State → Prop} {D : va_G} {cy : Nat → ClassId} {ad : Nat → Nat} {L : List Nat} {mem : gMem} {p0 : Int32} {rv : Int32} (hk : gOk ad L) (hL : ∀ o ∈ LM0, o ∈ L) (hE : gEok ad L E)  (h : f_X12_trace mem p0 = some rv) : gMet l yX12_trace cX12_trace 2 (some .int) 1 23 E D cy shM ad L [.ref (ad 0), .int p0] mem mem (some (.int rv)) := by
  refine g_go (own := RX12) (by decide +kernel) rfl hE (Nat.le_of_ble_eq_true rfl) ?_
  intro p e s m args below meth c R Q hargs hR hQ hEs hC hr hX H locs ls hH hl
  have hF := gF_of hk
  have hl : lv_has ls 2 [(0, .ref (ad 0)), (1, .int p0)] := hl
  refine lv_aload_n hC.x hC.b dX12_trace_0 rfl (lv_at hl 0 rfl) ?_
  refine lv_iload_n hC.x hC.b dX12_trace_1 rfl (lv_at hl 1 rfl) ?_
  refine lv_iconst (v := 0) hC.x hC.b dX12_trace_2 rfl ?_
  refine lv_bipush (v := 19) hC.x hC.b dX12_trace_3 rfl ?_
  obtain ⟨x1, hf1, h⟩ := bd_e h
  refine c_V1 (As := [.int p0, .int (0 : Int32), .int (19 : Int32)]) (rest := []) (o := 0) (q := (RX12, TX12, 74)) hC hX hE.2.1 hF hH (c_X12_in (l := l) hk hL hE hf1) kw167 kw168 kw169 kw5 kw170 a_X12_in.1 a_X12_in.2 (hL _ mM0) sM0 rfl rfl hl.1 (rmk hR (by decide) (by decide)) (Nat.le_of_ble_eq_true rfl) dX12_trace_5 (fun H locs hH => ?_)
  refine b_if_eq (tgt := 28) hC dX12_trace_8 (by decide) h (fun h => ?_) (fun h => ?_)
  · refine lv_iconst (v := -1) hC.x hC.b dX12_trace_28 rfl ?_
    rw [hQ]
    exact e_ir hC hr hH h dX12_trace_29
  · refine lv_iload_n hC.x hC.b dX12_trace_11 rfl (lv_at hl 1 rfl) ?_
    refine lv_aload_n hC.x hC.b dX12_trace_12 rfl (lv_at hl 0 rfl) ?_
    refine r_geti hC hH fl_X12_217_12 (hL _ mM0) sM0 rfl dX12_trace_13 ?_
    refine b_ic_ge (tgt := 28) hC dX12_trace_16 (by decide) h (fun h => ?_) (fun h => ?_)
    · refine lv_iconst (v := -1) hC.x hC.b dX12_trace_28 rfl ?_
      rw [hQ]
      exact e_ir hC hr hH h dX12_trace_29
    · refine lv_aload_n hC.x hC.b dX12_trace_19 rfl (lv_at hl 0 rfl) ?_
      refine r_getc (z := 35) hC hH fl_X12_220_12 (hL _ mM0) sM0 rfl dX12_trace_20 ?_
      refine lv_iload_n hC.x hC.b dX12_trace_23 rfl (lv_at hl 1 rfl) ?_
      refine r_iald hC hH (hL _ mM35) sM35 h dX12_trace_24 (fun h => ?_)
      refine lv_goto (tgt := 29) hC.x hC.b dX12_trace_25 (by decide) ?_
      rw [hQ]
      exact e_ir hC hr hH h dX12_trace_29
def f_X12_isTape (p0 : Int32) : Option Int32 := bd (f_X12_in p0 (0 : Int32) (5 : Int32)) fun (x1 : Int32) => if isB x1 then some x1 else none
set_option maxRecDepth 100000 in
set_option maxHeartbeats 4000000 in
theorem c_X12_isTape {l : Launch} {E : State → Prop} {D : va_G} {cy : Nat → ClassId} {ad : Nat → Nat} {L : List Nat} {mem : gMem} {p0 : Int32} {rv : Int32} (hk : gOk ad L) (hL : ∀ o ∈ LM0, o ∈ L) (hE : gEok ad L E)  (h : f_X12_isTape p0 = some rv) : gMet l yX12_isTape cX12_isTape 2 (some .boolean) 1 23 E D cy shM ad L [.ref (ad 0), .int p0] mem mem (some (.int rv)) := by
  refine g_go (own := RX12) (by decide +kernel) rfl hE (Nat.le_of_ble_eq_true rfl) ?_
  intro p e s m args below meth c R Q hargs hR hQ hEs hC hr hX H locs ls hH hl
  have hF := gF_of hk
  have hl : lv_has ls 2 [(0, .ref (ad 0)), (1, .int p0)] := hl
  refine lv_aload_n hC.x hC.b dX12_isTape_0 rfl (lv_at hl 0 rfl) ?_
  refine lv_iload_n hC.x hC.b dX12_isTape_1 rfl (lv_at hl 1 rfl) ?_
  refine lv_iconst (v := 0) hC.x hC.b dX12_isTape_2 rfl ?_
  refine lv_iconst (v := 5) hC.x hC.b dX12_isTape_3 rfl ?_
  obtain ⟨x1, hf1, h⟩ := bd_e h
  refine c_V1 (As := [.int p0, .int (0 : Int32), .int (5 : Int32)]) (rest := []) (o := 0) (q := (RX12, TX12, 74)) hC hX hE.2.1 hF hH (c_X12_in (l := l) hk hL hE hf1) kw167 kw168 kw169 kw5 kw170 a_X12_in.1 a_X12_in.2 (hL _ mM0) sM0 rfl rfl hl.1 (rmk hR (by decide) (by decide)) (Nat.le_of_ble_eq_true rfl) dX12_isTape_4 (fun H locs hH => ?_)
  rw [hQ]
  exact e_zr hC hr hH h dX12_isTape_7
theorem a_X12_isBoard : noMH yX12_isBoard.cls ∧ arity yX12_isBoard.desc 1 := by decide +kernel
def f_X12_creak (mem : gMem) (p0 : Int32) (p1 : Int32) : Option (Int32 × gMem) := bd (f_X12_isBoard p0) fun (x1 : Int32) => if x1 = 0 then (some ((-1 : Int32), mem)) else bd (f_X12_in p1 (0 : Int32) (9 : Int32)) fun (x2 : Int32) => if x2 = 0 then (some ((-2 : Int32), mem)) else if okI p0 12 then lt1 (gI mem 1 (ix p0)) fun (x3 : Int32) => if okI p0 12 then lt1 (gsI mem 1 (ix p0) p1) fun (m4 : gMem) => some (x3, m4) else none else none
set_option maxRecDepth 100000 in
set_option maxHeartbeats 4000000 in
theorem c_X12_creak {l : Launch} {E : State → Prop} {D : va_G} {cy : Nat → ClassId} {ad : Nat → Nat} {L : List Nat} {mem : gMem} {p0 : Int32} {p1 : Int32} {rv : Int32} {memz : gMem} (hk : gOk ad L) (hL : ∀ o ∈ LM0, o ∈ L) (hE : gEok ad L E)  (h : f_X12_creak mem p0 p1 = some (rv, memz)) : gMet l yX12_creak cX12_creak 4 (some .int) 2 44 E D cy shM ad L [.ref (ad 0), .int p0, .int p1] mem memz (some (.int rv)) := by
  refine g_go (own := RX12) (by decide +kernel) rfl hE (Nat.le_of_ble_eq_true rfl) ?_
  intro p e s m args below meth c R Q hargs hR hQ hEs hC hr hX H locs ls hH hl
  have hF := gF_of hk
  have hl : lv_has ls 4 [(0, .ref (ad 0)), (1, .int p0), (2, .int p1)] := hl
  refine lv_aload_n hC.x hC.b dX12_creak_0 rfl (lv_at hl 0 rfl) ?_
  refine lv_iload_n hC.x hC.b dX12_creak_1 rfl (lv_at hl 1 rfl) ?_
  obtain ⟨x1, hf1, h⟩ := bd_e h
  refine c_V1 (As := [.int p0]) (rest := []) (o := 0) (q := (RX12, TX12, 74)) hC hX hE.2.1 hF hH (c_X12_isBoard (l := l) hk hL hE hf1) kw163 kw164 kw165 kw5 kw166 a_X12_isBoard.1 a_X12_isBoard.2 (hL _ mM0) sM0 rfl rfl hl.1 (rmk hR (by decide) (by decide)) (Nat.le_of_ble_eq_true rfl) dX12_creak_2 (fun H locs hH => ?_)
  refine b_if_ne (tgt := 10) hC dX12_creak_5 (by decide) h (fun h => ?_) (fun h => ?_)
  · refine lv_aload_n hC.x hC.b dX12_creak_10 rfl (lv_at hl 0 rfl) ?_
    refine lv_iload_n hC.x hC.b dX12_creak_11 rfl (lv_at hl 2 rfl) ?_
    refine lv_iconst (v := 0) hC.x hC.b dX12_creak_12 rfl ?_
    refine lv_bipush (v := 9) hC.x hC.b dX12_creak_13 rfl ?_
    obtain ⟨x2, hf2, h⟩ := bd_e h
    refine c_V1 (As := [.int p1, .int (0 : Int32), .int (9 : Int32)]) (rest := []) (o := 0) (q := (RX12, TX12, 74)) hC hX hE.2.1 hF hH (c_X12_in (l := l) hk hL hE hf2) kw167 kw168 kw169 kw5 kw170 a_X12_in.1 a_X12_in.2 (hL _ mM0) sM0 rfl rfl hl.1 (rmk hR (by decide) (by decide)) (Nat.le_of_ble_eq_true rfl) dX12_creak_15 (fun H locs hH => ?_)
    refine b_if_ne (tgt := 24) hC dX12_creak_18 (by decide) h (fun h => ?_) (fun h => ?_)
    · refine lv_aload_n hC.x hC.b dX12_creak_24 rfl (lv_at hl 0 rfl) ?_
      refine r_getc (z := 1) hC hH fl_X12_29_12 (hL _ mM0) sM0 rfl dX12_creak_25 ?_
      refine lv_iload_n hC.x hC.b dX12_creak_28 rfl (lv_at hl 1 rfl) ?_
      refine r_iald hC hH (hL _ mM1) sM1 h dX12_creak_29 (fun h => ?_)
      refine n_i h (fun x3 h => ?_)
      refine lv_istore_n (lv' := [(3, .int x3), (0, .ref (ad 0)), (1, .int p0), (2, .int p1)]) hC.x hC.b dX12_creak_30 rfl hl (by decide) rfl (fun ls hl => ?_)
      refine lv_aload_n hC.x hC.b dX12_creak_31 rfl (lv_at hl 1 rfl) ?_
      refine r_getc (z := 1) hC hH fl_X12_29_12 (hL _ mM0) sM0 rfl dX12_creak_32 ?_
      refine lv_iload_n hC.x hC.b dX12_creak_35 rfl (lv_at hl 2 rfl) ?_
      refine lv_iload_n hC.x hC.b dX12_creak_36 rfl (lv_at hl 3 rfl) ?_
      refine r_iast hC hF hH (hL _ mM1) sM1 h dX12_creak_37 (fun m4 H locs h hH => ?_)
      refine lv_iload_n hC.x hC.b dX12_creak_38 rfl (lv_at hl 0 rfl) ?_
      rw [hQ]
      exact e_i hC hr hH h dX12_creak_39
    · refine lv_bipush (v := -2) hC.x hC.b dX12_creak_21 rfl ?_
      rw [hQ]
      exact e_i hC hr hH h dX12_creak_23
  · refine lv_iconst (v := -1) hC.x hC.b dX12_creak_8 rfl ?_
    rw [hQ]
    exact e_i hC hr hH h dX12_creak_9
def f_X12_toy (mem : gMem) (p0 : Int32) (p1 : Int32) : Option (Int32 × gMem) := bd (f_X12_isBoard p0) fun (x1 : Int32) => if x1 = 0 then (some ((-1 : Int32), mem)) else lt1 (((gI mem 0 3) >>> (p0 &&& 31)) &&& (1 : Int32)) fun (x2 : Int32) => jn ((fun (x4 : Int32) => lt1 (gsI mem 0 3 x4) fun (m5 : gMem) => some (x2, m5)) : Int32 → Option (Int32 × gMem)) fun j3 => if p1 = 0 then ((j3 ((gI mem 0 3) &&& (((1 : Int32) <<< (p0 &&& 31)) ^^^ (-1 : Int32))))) else (j3 ((gI mem 0 3) ||| ((1 : Int32) <<< (p0 &&& 31))))
set_option maxRecDepth 100000 in
set_option maxHeartbeats 4000000 in
theorem c_X12_toy {l : Launch} {E : State → Prop} {D : va_G} {cy : Nat → ClassId} {ad : Nat → Nat} {L : List Nat} {mem : gMem} {p0 : Int32} {p1 : Int32} {rv : Int32} {memz : gMem} (hk : gOk ad L) (hL : ∀ o ∈ LM0, o ∈ L) (hE : gEok ad L E)  (h : f_X12_toy mem p0 p1 = some (rv, memz)) : gMet l yX12_toy cX12_toy 4 (some .int) 2 44 E D cy shM ad L [.ref (ad 0), .int p0, .int p1] mem memz (some (.int rv)) := by
  refine g_go (own := RX12) (by decide +kernel) rfl hE (Nat.le_of_ble_eq_true rfl) ?_
  intro p e s m args below meth c R Q hargs hR hQ hEs hC hr hX H locs ls hH hl
  have hF := gF_of hk
  have hl : lv_has ls 4 [(0, .ref (ad 0)), (1, .int p0), (2, .int p1)] := hl
  refine lv_aload_n hC.x hC.b dX12_toy_0 rfl (lv_at hl 0 rfl) ?_
  refine lv_iload_n hC.x hC.b dX12_toy_1 rfl (lv_at hl 1 rfl) ?_
  obtain ⟨x1, hf1, h⟩ := bd_e h
  refine c_V1 (As := [.int p0]) (rest := []) (o := 0) (q := (RX12, TX12, 74)) hC hX hE.2.1 hF hH (c_X12_isBoard (l := l) hk hL hE hf1) kw163 kw164 kw165 kw5 kw166 a_X12_isBoard.1 a_X12_isBoard.2 (hL _ mM0) sM0 rfl rfl hl.1 (rmk hR (by decide) (by decide)) (Nat.le_of_ble_eq_true rfl) dX12_toy_2 (fun H locs hH => ?_)
  refine b_if_ne (tgt := 10) hC dX12_toy_5 (by decide) h (fun h => ?_) (fun h => ?_)
  · refine lv_aload_n hC.x hC.b dX12_toy_10 rfl (lv_at hl 0 rfl) ?_
    refine r_geti hC hH fl_X12_19_12 (hL _ mM0) sM0 rfl dX12_toy_11 ?_
    refine lv_iload_n hC.x hC.b dX12_toy_14 rfl (lv_at hl 1 rfl) ?_
    refine lv_ishr hC.x hC.b dX12_toy_15 ?_
    refine lv_iconst (v := 1) hC.x hC.b dX12_toy_16 rfl ?_
    refine lv_iand hC.x hC.b dX12_toy_17 ?_
    refine n_i h (fun x2 h => ?_)
    refine lv_istore_n (lv' := [(3, .int x2), (0, .ref (ad 0)), (1, .int p0), (2, .int p1)]) hC.x hC.b dX12_toy_18 rfl hl (by decide) rfl (fun ls hl => ?_)
    refine lv_aload_n hC.x hC.b dX12_toy_19 rfl (lv_at hl 1 rfl) ?_
    refine lv_iload_n hC.x hC.b dX12_toy_20 rfl (lv_at hl 3 rfl) ?_
    obtain ⟨j3, ej3, h⟩ := jn_e h
    have hj3 : ∀ (x4 : Int32) (H : Heap) (locs : List Loc) (ls : Array Slot), (j3 x4) = some (rv, memz) → gH D cy shM ad L (gA ad L) s.heap mem H locs → lv_has ls 4 [(3, .int x2)] → W p l e R s m args below meth c H locs 0 0 Q (F0 m 45 ls [.int x4, .ref (ad 0)]) := by
      intro x4 H locs ls h hH hl
      have h := ap1 ej3 h
      refine r_puti hC hF hH pl_X12_19_12 (hL _ mM0) sM0 rfl h dX12_toy_45 (fun m5 H locs h hH => ?_)
      refine lv_iload_n hC.x hC.b dX12_toy_48 rfl (lv_at hl 0 rfl) ?_
      rw [hQ]
      exact e_i hC hr hH h dX12_toy_49
    clear ej3
    refine b_if_eq (tgt := 35) hC dX12_toy_21 (by decide) h (fun h => ?_) (fun h => ?_)
    · refine lv_aload_n hC.x hC.b dX12_toy_35 rfl (lv_at hl 1 rfl) ?_
      refine r_geti hC hH fl_X12_19_12 (hL _ mM0) sM0 rfl dX12_toy_36 ?_
      refine lv_iconst (v := 1) hC.x hC.b dX12_toy_39 rfl ?_
      refine lv_iload_n hC.x hC.b dX12_toy_40 rfl (lv_at hl 2 rfl) ?_
      refine lv_ishl hC.x hC.b dX12_toy_41 ?_
      refine lv_iconst (v := -1) hC.x hC.b dX12_toy_42 rfl ?_
      refine lv_ixor hC.x hC.b dX12_toy_43 ?_
      refine lv_iand hC.x hC.b dX12_toy_44 ?_
      exact hj3 ((gI mem 0 3) &&& (((1 : Int32) <<< (p0 &&& 31)) ^^^ (-1 : Int32))) H locs ls h hH (lv_sub hl [0] rfl)
    · refine lv_aload_n hC.x hC.b dX12_toy_24 rfl (lv_at hl 1 rfl) ?_
      refine r_geti hC hH fl_X12_19_12 (hL _ mM0) sM0 rfl dX12_toy_25 ?_
      refine lv_iconst (v := 1) hC.x hC.b dX12_toy_28 rfl ?_
      refine lv_iload_n hC.x hC.b dX12_toy_29 rfl (lv_at hl 2 rfl) ?_
      refine lv_ishl hC.x hC.b dX12_toy_30 ?_
      refine lv_ior hC.x hC.b dX12_toy_31 ?_
      refine lv_goto (tgt := 45) hC.x hC.b dX12_toy_32 (by decide) ?_
      exact hj3 ((gI mem 0 3) ||| ((1 : Int32) <<< (p0 &&& 31))) H locs ls h hH (lv_sub hl [0] rfl)
  · refine lv_iconst (v := -1) hC.x hC.b dX12_toy_8 rfl ?_
    rw [hQ]
    exact e_i hC hr hH h dX12_toy_9
def f_X12_door (mem : gMem) (p0 : Int32) : Option (Int32 × gMem) := bd (f_X12_isBoard p0) fun (x1 : Int32) => if x1 = 0 then (some ((-1 : Int32), mem)) else lt1 (gI mem 0 4) fun (x2 : Int32) => lt1 (gsI mem 0 4 p0) fun (m3 : gMem) => some (x2, m3)
set_option maxRecDepth 100000 in
set_option maxHeartbeats 4000000 in
theorem c_X12_door {l : Launch} {E : State → Prop} {D : va_G} {cy : Nat → ClassId} {ad : Nat → Nat} {L : List Nat} {mem : gMem} {p0 : Int32} {rv : Int32} {memz : gMem} (hk : gOk ad L) (hL : ∀ o ∈ LM0, o ∈ L) (hE : gEok ad L E)  (h : f_X12_door mem p0 = some (rv, memz)) : gMet l yX12_door cX12_door 3 (some .int) 2 44 E D cy shM ad L [.ref (ad 0), .int p0] mem memz (some (.int rv)) := by
  refine g_go (own := RX12) (by decide +kernel) rfl hE (Nat.le_of_ble_eq_true rfl) ?_
  intro p e s m args below meth c R Q hargs hR hQ hEs hC hr hX H locs ls hH hl
  have hF := gF_of hk
  have hl : lv_has ls 3 [(0, .ref (ad 0)), (1, .int p0)] := hl
  refine lv_aload_n hC.x hC.b dX12_door_0 rfl (lv_at hl 0 rfl) ?_
  refine lv_iload_n hC.x hC.b dX12_door_1 rfl (lv_at hl 1 rfl) ?_
  obtain ⟨x1, hf1, h⟩ := bd_e h
  refine c_V1 (As := [.int p0]) (rest := []) (o := 0) (q := (RX12, TX12, 74)) hC hX hE.2.1 hF hH (c_X12_isBoard (l := l) hk hL hE hf1) kw163 kw164 kw165 kw5 kw166 a_X12_isBoard.1 a_X12_isBoard.2 (hL _ mM0) sM0 rfl rfl hl.1 (rmk hR (by decide) (by decide)) (Nat.le_of_ble_eq_true rfl) dX12_door_2 (fun H locs hH => ?_)
  refine b_if_ne (tgt := 10) hC dX12_door_5 (by decide) h (fun h => ?_) (fun h => ?_)
  · refine lv_aload_n hC.x hC.b dX12_door_10 rfl (lv_at hl 0 rfl) ?_
    refine r_geti hC hH fl_X12_22_12 (hL _ mM0) sM0 rfl dX12_door_11 ?_
    refine n_i h (fun x2 h => ?_)
    refine lv_istore_n (lv' := [(2, .int x2), (0, .ref (ad 0)), (1, .int p0)]) hC.x hC.b dX12_door_14 rfl hl (by decide) rfl (fun ls hl => ?_)
    refine lv_aload_n hC.x hC.b dX12_door_15 rfl (lv_at hl 1 rfl) ?_
    refine lv_iload_n hC.x hC.b dX12_door_16 rfl (lv_at hl 2 rfl) ?_
    refine r_puti hC hF hH pl_X12_22_12 (hL _ mM0) sM0 rfl h dX12_door_17 (fun m3 H locs h hH => ?_)
    refine lv_iload_n hC.x hC.b dX12_door_20 rfl (lv_at hl 0 rfl) ?_
    rw [hQ]
    exact e_i hC hr hH h dX12_door_21
  · refine lv_iconst (v := -1) hC.x hC.b dX12_door_8 rfl ?_
    rw [hQ]
    exact e_i hC hr hH h dX12_door_9
def s_X12_walker_79 (j7 : gMem → Option (Int32 × gMem)) (self8 : Int32 → gMem → Option (Int32 × gMem)) (x9 : Int32) (m10 : gMem) : Option (Int32 × gMem) := if (4 : Int32) ≤ x9 then ((j7 m10)) else if okI (((4 : Int32) * (gI m10 0 0)) + x9) 16 then lt1 (gsI m10 5 (ix (((4 : Int32) * (gI m10 0 0)) + x9)) (0 : Int32)) fun (m11 : gMem) => lt1 (x9 + (1 : Int32)) fun (x12 : Int32) => (self8 x12 m11) else none
def f_X12_walker (mem : gMem) (p0 : Int32) (p1 : Int32) (p2 : Int32) : Option (Int32 × gMem) := bd (f_X12_in p0 (0 : Int32) (6 : Int32)) fun (x1 : Int32) => if x1 = 0 then (some ((-1 : Int32), mem)) else bd (f_X12_isBoard p2) fun (x2 : Int32) => if x2 = 0 then (some ((-1 : Int32), mem)) else bd (f_X12_in p1 (0 : Int32) (9 : Int32)) fun (x3 : Int32) => if x3 = 0 then (some ((-2 : Int32), mem)) else if (gI mem 0 0) = (4 : Int32) then (some ((-4 : Int32), mem)) else if okI (gI mem 0 0) 4 then lt1 (gsI mem 2 (ix (gI mem 0 0)) p0) fun (m4 : gMem) => if okI (gI m4 0 0) 4 then lt1 (gsI m4 3 (ix (gI m4 0 0)) p1) fun (m5 : gMem) => if okI (gI m5 0 0) 4 then lt1 (gsI m5 4 (ix (gI m5 0 0)) p2) fun (m6 : gMem) => jn ((fun (m13 : gMem) => lt1 (gsI m13 0 0 ((gI m13 0 0) + (1 : Int32))) fun (m14 : gMem) => some (((gI m14 0 0) - (1 : Int32)), m14)) : gMem → Option (Int32 × gMem)) fun j7 => lq2 (s_X12_walker_79 j7) 1000 (0 : Int32) m6 else none else none else none
set_option maxRecDepth 100000 in
set_option maxHeartbeats 4000000 in
theorem c_X12_walker {l : Launch} {E : State → Prop} {D : va_G} {cy : Nat → ClassId} {ad : Nat → Nat} {L : List Nat} {mem : gMem} {p0 : Int32} {p1 : Int32} {p2 : Int32} {rv : Int32} {memz : gMem} (hk : gOk ad L) (hL : ∀ o ∈ LM0, o ∈ L) (hE : gEok ad L E)  (h : f_X12_walker mem p0 p1 p2 = some (rv, memz)) : gMet l yX12_walker cX12_walker 5 (some .int) 2 44 E D cy shM ad L [.ref (ad 0), .int p0, .int p1, .int p2] mem memz (some (.int rv)) := by
  refine g_go (own := RX12) (by decide +kernel) rfl hE (Nat.le_of_ble_eq_true rfl) ?_
  intro p e s m args below meth c R Q hargs hR hQ hEs hC hr hX H locs ls hH hl
  have hF := gF_of hk
  have hl : lv_has ls 5 [(0, .ref (ad 0)), (1, .int p0), (2, .int p1), (3, .int p2)] := hl
  refine lv_aload_n hC.x hC.b dX12_walker_0 rfl (lv_at hl 0 rfl) ?_
  refine lv_iload_n hC.x hC.b dX12_walker_1 rfl (lv_at hl 1 rfl) ?_
  refine lv_iconst (v := 0) hC.x hC.b dX12_walker_2 rfl ?_
  refine lv_bipush (v := 6) hC.x hC.b dX12_walker_3 rfl ?_
  obtain ⟨x1, hf1, h⟩ := bd_e h
  refine c_V1 (As := [.int p0, .int (0 : Int32), .int (6 : Int32)]) (rest := []) (o := 0) (q := (RX12, TX12, 74)) hC hX hE.2.1 hF hH (c_X12_in (l := l) hk hL hE hf1) kw167 kw168 kw169 kw5 kw170 a_X12_in.1 a_X12_in.2 (hL _ mM0) sM0 rfl rfl hl.1 (rmk hR (by decide) (by decide)) (Nat.le_of_ble_eq_true rfl) dX12_walker_5 (fun H locs hH => ?_)
  refine b_if_eq (tgt := 19) hC dX12_walker_8 (by decide) h (fun h => ?_) (fun h => ?_)
  · refine lv_iconst (v := -1) hC.x hC.b dX12_walker_19 rfl ?_
    rw [hQ]
    exact e_i hC hr hH h dX12_walker_20
  · refine lv_aload_n hC.x hC.b dX12_walker_11 rfl (lv_at hl 0 rfl) ?_
    refine lv_iload_n hC.x hC.b dX12_walker_12 rfl (lv_at hl 3 rfl) ?_
    obtain ⟨x2, hf2, h⟩ := bd_e h
    refine c_V1 (As := [.int p2]) (rest := []) (o := 0) (q := (RX12, TX12, 74)) hC hX hE.2.1 hF hH (c_X12_isBoard (l := l) hk hL hE hf2) kw163 kw164 kw165 kw5 kw166 a_X12_isBoard.1 a_X12_isBoard.2 (hL _ mM0) sM0 rfl rfl hl.1 (rmk hR (by decide) (by decide)) (Nat.le_of_ble_eq_true rfl) dX12_walker_13 (fun H locs hH => ?_)
    refine b_if_ne (tgt := 21) hC dX12_walker_16 (by decide) h (fun h => ?_) (fun h => ?_)
    · refine lv_aload_n hC.x hC.b dX12_walker_21 rfl (lv_at hl 0 rfl) ?_
      refine lv_iload_n hC.x hC.b dX12_walker_22 rfl (lv_at hl 2 rfl) ?_
      refine lv_iconst (v := 0) hC.x hC.b dX12_walker_23 rfl ?_
      refine lv_bipush (v := 9) hC.x hC.b dX12_walker_24 rfl ?_
      obtain ⟨x3, hf3, h⟩ := bd_e h
      refine c_V1 (As := [.int p1, .int (0 : Int32), .int (9 : Int32)]) (rest := []) (o := 0) (q := (RX12, TX12, 74)) hC hX hE.2.1 hF hH (c_X12_in (l := l) hk hL hE hf3) kw167 kw168 kw169 kw5 kw170 a_X12_in.1 a_X12_in.2 (hL _ mM0) sM0 rfl rfl hl.1 (rmk hR (by decide) (by decide)) (Nat.le_of_ble_eq_true rfl) dX12_walker_26 (fun H locs hH => ?_)
      refine b_if_ne (tgt := 35) hC dX12_walker_29 (by decide) h (fun h => ?_) (fun h => ?_)
      · refine lv_aload_n hC.x hC.b dX12_walker_35 rfl (lv_at hl 0 rfl) ?_
        refine r_geti hC hH fl_X12_7_12 (hL _ mM0) sM0 rfl dX12_walker_36 ?_
        refine lv_iconst (v := 4) hC.x hC.b dX12_walker_39 rfl ?_
        refine b_ic_ne (tgt := 46) hC dX12_walker_40 (by decide) h (fun h => ?_) (fun h => ?_)
        · refine lv_aload_n hC.x hC.b dX12_walker_46 rfl (lv_at hl 0 rfl) ?_
          refine r_getc (z := 2) hC hH fl_X12_33_12 (hL _ mM0) sM0 rfl dX12_walker_47 ?_
          refine lv_aload_n hC.x hC.b dX12_walker_50 rfl (lv_at hl 0 rfl) ?_
          refine r_geti hC hH fl_X12_7_12 (hL _ mM0) sM0 rfl dX12_walker_51 ?_
          refine lv_iload_n hC.x hC.b dX12_walker_54 rfl (lv_at hl 1 rfl) ?_
          refine r_iast hC hF hH (hL _ mM2) sM2 h dX12_walker_55 (fun m4 H locs h hH => ?_)
          refine lv_aload_n hC.x hC.b dX12_walker_56 rfl (lv_at hl 0 rfl) ?_
          refine r_getc (z := 3) hC hH fl_X12_36_12 (hL _ mM0) sM0 rfl dX12_walker_57 ?_
          refine lv_aload_n hC.x hC.b dX12_walker_60 rfl (lv_at hl 0 rfl) ?_
          refine r_geti hC hH fl_X12_7_12 (hL _ mM0) sM0 rfl dX12_walker_61 ?_
          refine lv_iload_n hC.x hC.b dX12_walker_64 rfl (lv_at hl 2 rfl) ?_
          refine r_iast hC hF hH (hL _ mM3) sM3 h dX12_walker_65 (fun m5 H locs h hH => ?_)
          refine lv_aload_n hC.x hC.b dX12_walker_66 rfl (lv_at hl 0 rfl) ?_
          refine r_getc (z := 4) hC hH fl_X12_39_12 (hL _ mM0) sM0 rfl dX12_walker_67 ?_
          refine lv_aload_n hC.x hC.b dX12_walker_70 rfl (lv_at hl 0 rfl) ?_
          refine r_geti hC hH fl_X12_7_12 (hL _ mM0) sM0 rfl dX12_walker_71 ?_
          refine lv_iload_n hC.x hC.b dX12_walker_74 rfl (lv_at hl 3 rfl) ?_
          refine r_iast hC hF hH (hL _ mM4) sM4 h dX12_walker_75 (fun m6 H locs h hH => ?_)
          refine lv_iconst (v := 0) hC.x hC.b dX12_walker_76 rfl ?_
          refine lv_istore (lv' := [(4, .int (0 : Int32)), (0, .ref (ad 0)), (1, .int p0), (2, .int p1), (3, .int p2)]) hC.x hC.b dX12_walker_77 hl (by decide) rfl (fun ls hl => ?_)
          obtain ⟨j7, ej7, h⟩ := jn_e h
          have hj7 : ∀ (m13 : gMem) (H : Heap) (locs : List Loc) (ls : Array Slot), (j7 m13) = some (rv, memz) → gH D cy shM ad L (gA ad L) s.heap m13 H locs → lv_has ls 5 [(0, .ref (ad 0))] → W p l e R s m args below meth c H locs 0 0 Q (F0 m 106 ls []) := by
            intro m13 H locs ls h hH hl
            have h := ap1 ej7 h
            refine lv_aload_n hC.x hC.b dX12_walker_106 rfl (lv_at hl 0 rfl) ?_
            refine lv_dup hC.x hC.b dX12_walker_107 rfl ?_
            refine r_geti hC hH fl_X12_7_12 (hL _ mM0) sM0 rfl dX12_walker_108 ?_
            refine lv_iconst (v := 1) hC.x hC.b dX12_walker_111 rfl ?_
            refine lv_iadd hC.x hC.b dX12_walker_112 ?_
            refine r_puti hC hF hH pl_X12_7_12 (hL _ mM0) sM0 rfl h dX12_walker_113 (fun m14 H locs h hH => ?_)
            refine lv_aload_n hC.x hC.b dX12_walker_116 rfl (lv_at hl 0 rfl) ?_
            refine r_geti hC hH fl_X12_7_12 (hL _ mM0) sM0 rfl dX12_walker_117 ?_
            refine lv_iconst (v := 1) hC.x hC.b dX12_walker_120 rfl ?_
            refine lv_isub hC.x hC.b dX12_walker_121 ?_
            rw [hQ]
            exact e_i hC hr hH h dX12_walker_122
          clear ej7
          have hl8 : ∀ (n : Nat) (x9 : Int32) (m10 : gMem) (H : Heap) (locs : List Loc) (ls : Array Slot), lq2 (s_X12_walker_79 j7) n x9 m10 = some (rv, memz) → gH D cy shM ad L (gA ad L) s.heap m10 H locs → lv_has ls 5 [(0, .ref (ad 0)), (4, .int x9)] → W p l e R s m args below meth c H locs 0 0 Q (F0 m 79 ls []) := by
            intro n
            induction n with
            | zero => intro x9 m10 H locs ls h _ _; exact lq2_0 h
            | succ n ih8 =>
              intro x9 m10 H locs ls h hH hl
              obtain ⟨self8, es8, h⟩ := lq2_s h
              refine lv_iload hC.x hC.b dX12_walker_79 (lv_at hl 1 rfl) ?_
              refine lv_iconst (v := 4) hC.x hC.b dX12_walker_81 rfl ?_
              refine b_ic_ge (tgt := 106) hC dX12_walker_82 (by decide) h (fun h => ?_) (fun h => ?_)
              · exact hj7 m10 H locs ls h hH (lv_sub hl [0] rfl)
              · refine lv_aload_n hC.x hC.b dX12_walker_85 rfl (lv_at hl 0 rfl) ?_
                refine r_getc (z := 5) hC hH fl_X12_42_12 (hL _ mM0) sM0 rfl dX12_walker_86 ?_
                refine lv_iconst (v := 4) hC.x hC.b dX12_walker_89 rfl ?_
                refine lv_aload_n hC.x hC.b dX12_walker_90 rfl (lv_at hl 0 rfl) ?_
                refine r_geti hC hH fl_X12_7_12 (hL _ mM0) sM0 rfl dX12_walker_91 ?_
                refine lv_imul hC.x hC.b dX12_walker_94 ?_
                refine lv_iload hC.x hC.b dX12_walker_95 (lv_at hl 1 rfl) ?_
                refine lv_iadd hC.x hC.b dX12_walker_97 ?_
                refine lv_iconst (v := 0) hC.x hC.b dX12_walker_98 rfl ?_
                refine r_iast hC hF hH (hL _ mM5) sM5 h dX12_walker_99 (fun m11 H locs h hH => ?_)
                refine i_inc (lv' := fun x12 => [(4, .int x12), (0, .ref (ad 0))]) hC dX12_walker_100 hl (k := 1) rfl (by decide) (fun _ => rfl) (z := 1) rfl h (fun x12 ls h hl => ?_)
                refine lv_goto (tgt := 79) hC.x hC.b dX12_walker_103 (by decide) ?_
                exact ih8 x12 m11 H locs ls (ap2 es8 h) hH (lv_sub hl [1, 0] rfl)
          exact hl8 _ (0 : Int32) m6 H locs ls h hH (lv_sub hl [1, 0] rfl)
        · refine lv_bipush (v := -4) hC.x hC.b dX12_walker_43 rfl ?_
          rw [hQ]
          exact e_i hC hr hH h dX12_walker_45
      · refine lv_bipush (v := -2) hC.x hC.b dX12_walker_32 rfl ?_
        rw [hQ]
        exact e_i hC hr hH h dX12_walker_34
    · refine lv_iconst (v := -1) hC.x hC.b dX12_walker_19 rfl ?_
      rw [hQ]
      exact e_i hC hr hH h dX12_walker_20
theorem a_X12_isWalker : noMH yX12_isWalker.cls ∧ arity yX12_isWalker.desc 1 := by decide +kernel
def f_X12_put (mem : gMem) (p0 : Int32) (p1 : Int32) : Option (Int32 × gMem) := bd (f_X12_isWalker mem p0) fun (x1 : Int32) => if x1 = 0 then (some ((-1 : Int32), mem)) else bd (f_X12_isBoard p1) fun (x2 : Int32) => if x2 = 0 then (some ((-1 : Int32), mem)) else if okI p0 4 then lt1 (gI mem 4 (ix p0)) fun (x3 : Int32) => if okI p0 4 then lt1 (gsI mem 4 (ix p0) p1) fun (m4 : gMem) => some (x3, m4) else none else none
set_option maxRecDepth 100000 in
set_option maxHeartbeats 4000000 in
theorem c_X12_put {l : Launch} {E : State → Prop} {D : va_G} {cy : Nat → ClassId} {ad : Nat → Nat} {L : List Nat} {mem : gMem} {p0 : Int32} {p1 : Int32} {rv : Int32} {memz : gMem} (hk : gOk ad L) (hL : ∀ o ∈ LM0, o ∈ L) (hE : gEok ad L E)  (h : f_X12_put mem p0 p1 = some (rv, memz)) : gMet l yX12_put cX12_put 4 (some .int) 2 44 E D cy shM ad L [.ref (ad 0), .int p0, .int p1] mem memz (some (.int rv)) := by
  refine g_go (own := RX12) (by decide +kernel) rfl hE (Nat.le_of_ble_eq_true rfl) ?_
  intro p e s m args below meth c R Q hargs hR hQ hEs hC hr hX H locs ls hH hl
  have hF := gF_of hk
  have hl : lv_has ls 4 [(0, .ref (ad 0)), (1, .int p0), (2, .int p1)] := hl
  refine lv_aload_n hC.x hC.b dX12_put_0 rfl (lv_at hl 0 rfl) ?_
  refine lv_iload_n hC.x hC.b dX12_put_1 rfl (lv_at hl 1 rfl) ?_
  obtain ⟨x1, hf1, h⟩ := bd_e h
  refine c_V1 (As := [.int p0]) (rest := []) (o := 0) (q := (RX12, TX12, 74)) hC hX hE.2.1 hF hH (c_X12_isWalker (l := l) hk hL hE hf1) kw376 kw377 kw378 kw5 kw379 a_X12_isWalker.1 a_X12_isWalker.2 (hL _ mM0) sM0 rfl rfl hl.1 (rmk hR (by decide) (by decide)) (Nat.le_of_ble_eq_true rfl) dX12_put_2 (fun H locs hH => ?_)
  refine b_if_eq (tgt := 16) hC dX12_put_5 (by decide) h (fun h => ?_) (fun h => ?_)
  · refine lv_iconst (v := -1) hC.x hC.b dX12_put_16 rfl ?_
    rw [hQ]
    exact e_i hC hr hH h dX12_put_17
  · refine lv_aload_n hC.x hC.b dX12_put_8 rfl (lv_at hl 0 rfl) ?_
    refine lv_iload_n hC.x hC.b dX12_put_9 rfl (lv_at hl 2 rfl) ?_
    obtain ⟨x2, hf2, h⟩ := bd_e h
    refine c_V1 (As := [.int p1]) (rest := []) (o := 0) (q := (RX12, TX12, 74)) hC hX hE.2.1 hF hH (c_X12_isBoard (l := l) hk hL hE hf2) kw163 kw164 kw165 kw5 kw166 a_X12_isBoard.1 a_X12_isBoard.2 (hL _ mM0) sM0 rfl rfl hl.1 (rmk hR (by decide) (by decide)) (Nat.le_of_ble_eq_true rfl) dX12_put_10 (fun H locs hH => ?_)
    refine b_if_ne (tgt := 18) hC dX12_put_13 (by decide) h (fun h => ?_) (fun h => ?_)
    · refine lv_aload_n hC.x hC.b dX12_put_18 rfl (lv_at hl 0 rfl) ?_
      refine r_getc (z := 4) hC hH fl_X12_39_12 (hL _ mM0) sM0 rfl dX12_put_19 ?_
      refine lv_iload_n hC.x hC.b dX12_put_22 rfl (lv_at hl 1 rfl) ?_
      refine r_iald hC hH (hL _ mM4) sM4 h dX12_put_23 (fun h => ?_)
      refine n_i h (fun x3 h => ?_)
      refine lv_istore_n (lv' := [(3, .int x3), (0, .ref (ad 0)), (1, .int p0), (2, .int p1)]) hC.x hC.b dX12_put_24 rfl hl (by decide) rfl (fun ls hl => ?_)
      refine lv_aload_n hC.x hC.b dX12_put_25 rfl (lv_at hl 1 rfl) ?_
      refine r_getc (z := 4) hC hH fl_X12_39_12 (hL _ mM0) sM0 rfl dX12_put_26 ?_
      refine lv_iload_n hC.x hC.b dX12_put_29 rfl (lv_at hl 2 rfl) ?_
      refine lv_iload_n hC.x hC.b dX12_put_30 rfl (lv_at hl 3 rfl) ?_
      refine r_iast hC hF hH (hL _ mM4) sM4 h dX12_put_31 (fun m4 H locs h hH => ?_)
      refine lv_iload_n hC.x hC.b dX12_put_32 rfl (lv_at hl 0 rfl) ?_
      rw [hQ]
      exact e_i hC hr hH h dX12_put_33
    · refine lv_iconst (v := -1) hC.x hC.b dX12_put_16 rfl ?_
      rw [hQ]
      exact e_i hC hr hH h dX12_put_17
def f_X12_row (mem : gMem) (p0 : Int32) (p1 : Int32) (p2 : Int32) : Option (Int32 × gMem) := bd (f_X12_isWalker mem p0) fun (x1 : Int32) => if x1 = 0 then (some ((-1 : Int32), mem)) else bd (f_X12_in p1 (0 : Int32) (3 : Int32)) fun (x2 : Int32) => if x2 = 0 then (some ((-1 : Int32), mem)) else bd (f_X12_in p2 (0 : Int32) (9 : Int32)) fun (x3 : Int32) => if x3 = 0 then (some ((-2 : Int32), mem)) else if okI p0 4 then if (gI mem 2 (ix p0)) = (6 : Int32) then (if okI (((4 : Int32) * p0) + p1) 16 then lt1 (gI mem 5 (ix (((4 : Int32) * p0) + p1))) fun (x4 : Int32) => if okI (((4 : Int32) * p0) + p1) 16 then lt1 (gsI mem 5 (ix (((4 : Int32) * p0) + p1)) p2) fun (m5 : gMem) => some (x4, m5) else none else none) else some ((-3 : Int32), mem) else none
set_option maxRecDepth 100000 in
set_option maxHeartbeats 4000000 in
theorem c_X12_row {l : Launch} {E : State → Prop} {D : va_G} {cy : Nat → ClassId} {ad : Nat → Nat} {L : List Nat} {mem : gMem} {p0 : Int32} {p1 : Int32} {p2 : Int32} {rv : Int32} {memz : gMem} (hk : gOk ad L) (hL : ∀ o ∈ LM0, o ∈ L) (hE : gEok ad L E)  (h : f_X12_row mem p0 p1 p2 = some (rv, memz)) : gMet l yX12_row cX12_row 5 (some .int) 2 44 E D cy shM ad L [.ref (ad 0), .int p0, .int p1, .int p2] mem memz (some (.int rv)) := by
  refine g_go (own := RX12) (by decide +kernel) rfl hE (Nat.le_of_ble_eq_true rfl) ?_
  intro p e s m args below meth c R Q hargs hR hQ hEs hC hr hX H locs ls hH hl
  have hF := gF_of hk
  have hl : lv_has ls 5 [(0, .ref (ad 0)), (1, .int p0), (2, .int p1), (3, .int p2)] := hl
  refine lv_aload_n hC.x hC.b dX12_row_0 rfl (lv_at hl 0 rfl) ?_
  refine lv_iload_n hC.x hC.b dX12_row_1 rfl (lv_at hl 1 rfl) ?_
  obtain ⟨x1, hf1, h⟩ := bd_e h
  refine c_V1 (As := [.int p0]) (rest := []) (o := 0) (q := (RX12, TX12, 74)) hC hX hE.2.1 hF hH (c_X12_isWalker (l := l) hk hL hE hf1) kw376 kw377 kw378 kw5 kw379 a_X12_isWalker.1 a_X12_isWalker.2 (hL _ mM0) sM0 rfl rfl hl.1 (rmk hR (by decide) (by decide)) (Nat.le_of_ble_eq_true rfl) dX12_row_2 (fun H locs hH => ?_)
  refine b_if_eq (tgt := 18) hC dX12_row_5 (by decide) h (fun h => ?_) (fun h => ?_)
  · refine lv_iconst (v := -1) hC.x hC.b dX12_row_18 rfl ?_
    rw [hQ]
    exact e_i hC hr hH h dX12_row_19
  · refine lv_aload_n hC.x hC.b dX12_row_8 rfl (lv_at hl 0 rfl) ?_
    refine lv_iload_n hC.x hC.b dX12_row_9 rfl (lv_at hl 2 rfl) ?_
    refine lv_iconst (v := 0) hC.x hC.b dX12_row_10 rfl ?_
    refine lv_iconst (v := 3) hC.x hC.b dX12_row_11 rfl ?_
    obtain ⟨x2, hf2, h⟩ := bd_e h
    refine c_V1 (As := [.int p1, .int (0 : Int32), .int (3 : Int32)]) (rest := []) (o := 0) (q := (RX12, TX12, 74)) hC hX hE.2.1 hF hH (c_X12_in (l := l) hk hL hE hf2) kw167 kw168 kw169 kw5 kw170 a_X12_in.1 a_X12_in.2 (hL _ mM0) sM0 rfl rfl hl.1 (rmk hR (by decide) (by decide)) (Nat.le_of_ble_eq_true rfl) dX12_row_12 (fun H locs hH => ?_)
    refine b_if_ne (tgt := 20) hC dX12_row_15 (by decide) h (fun h => ?_) (fun h => ?_)
    · refine lv_aload_n hC.x hC.b dX12_row_20 rfl (lv_at hl 0 rfl) ?_
      refine lv_iload_n hC.x hC.b dX12_row_21 rfl (lv_at hl 3 rfl) ?_
      refine lv_iconst (v := 0) hC.x hC.b dX12_row_22 rfl ?_
      refine lv_bipush (v := 9) hC.x hC.b dX12_row_23 rfl ?_
      obtain ⟨x3, hf3, h⟩ := bd_e h
      refine c_V1 (As := [.int p2, .int (0 : Int32), .int (9 : Int32)]) (rest := []) (o := 0) (q := (RX12, TX12, 74)) hC hX hE.2.1 hF hH (c_X12_in (l := l) hk hL hE hf3) kw167 kw168 kw169 kw5 kw170 a_X12_in.1 a_X12_in.2 (hL _ mM0) sM0 rfl rfl hl.1 (rmk hR (by decide) (by decide)) (Nat.le_of_ble_eq_true rfl) dX12_row_25 (fun H locs hH => ?_)
      refine b_if_ne (tgt := 34) hC dX12_row_28 (by decide) h (fun h => ?_) (fun h => ?_)
      · refine lv_aload_n hC.x hC.b dX12_row_34 rfl (lv_at hl 0 rfl) ?_
        refine r_getc (z := 2) hC hH fl_X12_33_12 (hL _ mM0) sM0 rfl dX12_row_35 ?_
        refine lv_iload_n hC.x hC.b dX12_row_38 rfl (lv_at hl 1 rfl) ?_
        refine r_iald hC hH (hL _ mM2) sM2 h dX12_row_39 (fun h => ?_)
        refine lv_bipush (v := 6) hC.x hC.b dX12_row_40 rfl ?_
        refine b_ic_eq (tgt := 48) hC dX12_row_42 (by decide) h (fun h => ?_) (fun h => ?_)
        · refine lv_aload_n hC.x hC.b dX12_row_48 rfl (lv_at hl 0 rfl) ?_
          refine r_getc (z := 5) hC hH fl_X12_42_12 (hL _ mM0) sM0 rfl dX12_row_49 ?_
          refine lv_iconst (v := 4) hC.x hC.b dX12_row_52 rfl ?_
          refine lv_iload_n hC.x hC.b dX12_row_53 rfl (lv_at hl 1 rfl) ?_
          refine lv_imul hC.x hC.b dX12_row_54 ?_
          refine lv_iload_n hC.x hC.b dX12_row_55 rfl (lv_at hl 2 rfl) ?_
          refine lv_iadd hC.x hC.b dX12_row_56 ?_
          refine r_iald hC hH (hL _ mM5) sM5 h dX12_row_57 (fun h => ?_)
          refine n_i h (fun x4 h => ?_)
          refine lv_istore (lv' := [(4, .int x4), (0, .ref (ad 0)), (1, .int p0), (2, .int p1), (3, .int p2)]) hC.x hC.b dX12_row_58 hl (by decide) rfl (fun ls hl => ?_)
          refine lv_aload_n hC.x hC.b dX12_row_60 rfl (lv_at hl 1 rfl) ?_
          refine r_getc (z := 5) hC hH fl_X12_42_12 (hL _ mM0) sM0 rfl dX12_row_61 ?_
          refine lv_iconst (v := 4) hC.x hC.b dX12_row_64 rfl ?_
          refine lv_iload_n hC.x hC.b dX12_row_65 rfl (lv_at hl 2 rfl) ?_
          refine lv_imul hC.x hC.b dX12_row_66 ?_
          refine lv_iload_n hC.x hC.b dX12_row_67 rfl (lv_at hl 3 rfl) ?_
          refine lv_iadd hC.x hC.b dX12_row_68 ?_
          refine lv_iload_n hC.x hC.b dX12_row_69 rfl (lv_at hl 4 rfl) ?_
          refine r_iast hC hF hH (hL _ mM5) sM5 h dX12_row_70 (fun m5 H locs h hH => ?_)
          refine lv_iload hC.x hC.b dX12_row_71 (lv_at hl 0 rfl) ?_
          rw [hQ]
          exact e_i hC hr hH h dX12_row_73
        · refine lv_bipush (v := -3) hC.x hC.b dX12_row_45 rfl ?_
          rw [hQ]
          exact e_i hC hr hH h dX12_row_47
      · refine lv_bipush (v := -2) hC.x hC.b dX12_row_31 rfl ?_
        rw [hQ]
        exact e_i hC hr hH h dX12_row_33
    · refine lv_iconst (v := -1) hC.x hC.b dX12_row_18 rfl ?_
      rw [hQ]
      exact e_i hC hr hH h dX12_row_19
theorem fl_X12_93_12 : gFl RX12 93 12 27 := ⟨RX12, TX12, 74, "OnTiptoeModel", rfl, inW12, by decide, kw103, Or.inl rfl⟩
theorem a_X12_takes : noMH yX12_takes.cls ∧ arity yX12_takes.desc 1 := by decide +kernel
def s_X12_takesWord_2 (p1 : Int32) (j1 : gMem → Option (Int32 × gMem)) (p0 : Int32) (self2 : Int32 → gMem → Option (Int32 × gMem)) (x3 : Int32) (m4 : gMem) : Option (Int32 × gMem) := if p1 ≤ x3 then ((j1 m4)) else if okI (p0 + x3) 13 then bd2 (f_X12_takes m4 (gI m4 14 (ix (p0 + x3)))) fun (x6 : Int32) (m5 : gMem) => if x6 = 0 then (some ((0 : Int32), m5)) else lt1 (x3 + (1 : Int32)) fun (x7 : Int32) => (self2 x7 m5) else none
def f_X12_takesWord (mem : gMem) (p0 : Int32) (p1 : Int32) : Option (Int32 × gMem) := jn ((fun (m8 : gMem) => bd2 (f_X12_takes m8 (32 : Int32)) fun (x10 : Int32) (m9 : gMem) => if isB x10 then some (x10, m9) else none) : gMem → Option (Int32 × gMem)) fun j1 => lq2 (s_X12_takesWord_2 p1 j1 p0) 1000 (0 : Int32) mem
set_option maxRecDepth 100000 in
set_option maxHeartbeats 4000000 in
theorem c_X12_takesWord {l : Launch} {E : State → Prop} {D : va_G} {cy : Nat → ClassId} {ad : Nat → Nat} {L : List Nat} {mem : gMem} {p0 : Int32} {p1 : Int32} {rv : Int32} {memz : gMem} (hk : gOk ad L) (hL : ∀ o ∈ LM0, o ∈ L) (hE : gEok ad L E)  (h : f_X12_takesWord mem p0 p1 = some (rv, memz)) : gMet l yX12_takesWord cX12_takesWord 4 (some .boolean) 2 41 E D cy shM ad L [.ref (ad 0), .int p0, .int p1] mem memz (some (.int rv)) := by
  refine g_go (own := RX12) (by decide +kernel) rfl hE (Nat.le_of_ble_eq_true rfl) ?_
  intro p e s m args below meth c R Q hargs hR hQ hEs hC hr hX H locs ls hH hl
  have hF := gF_of hk
  have hl : lv_has ls 4 [(0, .ref (ad 0)), (1, .int p0), (2, .int p1)] := hl
  refine lv_iconst (v := 0) hC.x hC.b dX12_takesWord_0 rfl ?_
  refine lv_istore_n (lv' := [(3, .int (0 : Int32)), (0, .ref (ad 0)), (1, .int p0), (2, .int p1)]) hC.x hC.b dX12_takesWord_1 rfl hl (by decide) rfl (fun ls hl => ?_)
  obtain ⟨j1, ej1, h⟩ := jn_e h
  have hj1 : ∀ (m8 : gMem) (H : Heap) (locs : List Loc) (ls : Array Slot), (j1 m8) = some (rv, memz) → gH D cy shM ad L (gA ad L) s.heap m8 H locs → lv_has ls 4 [(0, .ref (ad 0))] → W p l e R s m args below meth c H locs 0 0 Q (F0 m 30 ls []) := by
    intro m8 H locs ls h hH hl
    have h := ap1 ej1 h
    refine lv_aload_n hC.x hC.b dX12_takesWord_30 rfl (lv_at hl 0 rfl) ?_
    refine lv_bipush (v := 32) hC.x hC.b dX12_takesWord_31 rfl ?_
    obtain ⟨x10, m9, hf10, h⟩ := bd2_e h
    refine c_V1 (As := [.int (32 : Int32)]) (rest := []) (o := 0) (q := (RX12, TX12, 74)) hC hX hE.2.1 hF hH (c_X12_takes (l := l) hk hL hE hf10) kw653 kw654 kw655 kw5 kw656 a_X12_takes.1 a_X12_takes.2 (hL _ mM0) sM0 rfl rfl hl.1 (rmk hR (by decide) (by decide)) (Nat.le_of_ble_eq_true rfl) dX12_takesWord_33 (fun H locs hH => ?_)
    rw [hQ]
    exact e_z hC hr hH h dX12_takesWord_36
  clear ej1
  have hl2 : ∀ (n : Nat) (x3 : Int32) (m4 : gMem) (H : Heap) (locs : List Loc) (ls : Array Slot), lq2 (s_X12_takesWord_2 p1 j1 p0) n x3 m4 = some (rv, memz) → gH D cy shM ad L (gA ad L) s.heap m4 H locs → lv_has ls 4 [(0, .ref (ad 0)), (1, .int p0), (2, .int p1), (3, .int x3)] → W p l e R s m args below meth c H locs 0 0 Q (F0 m 2 ls []) := by
    intro n
    induction n with
    | zero => intro x3 m4 H locs ls h _ _; exact lq2_0 h
    | succ n ih2 =>
      intro x3 m4 H locs ls h hH hl
      obtain ⟨self2, es2, h⟩ := lq2_s h
      refine lv_iload_n hC.x hC.b dX12_takesWord_2 rfl (lv_at hl 3 rfl) ?_
      refine lv_iload_n hC.x hC.b dX12_takesWord_3 rfl (lv_at hl 2 rfl) ?_
      refine b_ic_ge (tgt := 30) hC dX12_takesWord_4 (by decide) h (fun h => ?_) (fun h => ?_)
      · exact hj1 m4 H locs ls h hH (lv_sub hl [0] rfl)
      · refine lv_aload_n hC.x hC.b dX12_takesWord_7 rfl (lv_at hl 0 rfl) ?_
        refine lv_aload_n hC.x hC.b dX12_takesWord_8 rfl (lv_at hl 0 rfl) ?_
        refine r_getc (z := 14) hC hH fl_X12_93_12 (hL _ mM0) sM0 rfl dX12_takesWord_9 ?_
        refine lv_iload_n hC.x hC.b dX12_takesWord_12 rfl (lv_at hl 1 rfl) ?_
        refine lv_iload_n hC.x hC.b dX12_takesWord_13 rfl (lv_at hl 3 rfl) ?_
        refine lv_iadd hC.x hC.b dX12_takesWord_14 ?_
        refine r_iald hC hH (hL _ mM14) sM14 h dX12_takesWord_15 (fun h => ?_)
        obtain ⟨x6, m5, hf6, h⟩ := bd2_e h
        refine c_V1 (As := [.int (gI m4 14 (ix (p0 + x3)))]) (rest := []) (o := 0) (q := (RX12, TX12, 74)) hC hX hE.2.1 hF hH (c_X12_takes (l := l) hk hL hE hf6) kw653 kw654 kw655 kw5 kw656 a_X12_takes.1 a_X12_takes.2 (hL _ mM0) sM0 rfl rfl hl.1 (rmk hR (by decide) (by decide)) (Nat.le_of_ble_eq_true rfl) dX12_takesWord_16 (fun H locs hH => ?_)
        refine b_if_ne (tgt := 24) hC dX12_takesWord_19 (by decide) h (fun h => ?_) (fun h => ?_)
        · refine i_inc (lv' := fun x7 => [(3, .int x7), (0, .ref (ad 0)), (1, .int p0), (2, .int p1)]) hC dX12_takesWord_24 hl (k := 3) rfl (by decide) (fun _ => rfl) (z := 1) rfl h (fun x7 ls h hl => ?_)
          refine lv_goto (tgt := 2) hC.x hC.b dX12_takesWord_27 (by decide) ?_
          exact ih2 x7 m5 H locs ls (ap2 es2 h) hH (lv_sub hl [1, 2, 3, 0] rfl)
        · refine lv_iconst (v := 0) hC.x hC.b dX12_takesWord_22 rfl ?_
          rw [hQ]
          exact e_n hC hr rfl hH h dX12_takesWord_23
  exact hl2 _ (0 : Int32) mem H locs ls h hH (lv_sub hl [1, 2, 3, 0] rfl)
theorem a_X12_isDigit : noMH yX12_isDigit.cls ∧ arity yX12_isDigit.desc 0 := by decide +kernel
theorem pl_X12_57_12 : gPl RX12 57 12 15 "I" := ⟨RX12, TX12, 74, tyX12, "OnTiptoeModel", rfl, inW12, tyX12_ok, nmX12, by decide, kw91, Or.inl rfl, rfl, rfl⟩
theorem fl_X12_57_12 : gFl RX12 57 12 15 := ⟨RX12, TX12, 74, "OnTiptoeModel", rfl, inW12, by decide, kw91, Or.inl rfl⟩
def s_X12_takesNumber_16 (self3 : Int32 → gMem → Option (Int32 × gMem)) (x4 : Int32) (m5 : gMem) : Option (Int32 × gMem) := if (2 : Int32) ≤ x4 then (some ((1 : Int32), m5)) else bd (f_X12_isDigit m5) fun (x6 : Int32) => if x6 = 0 then (some ((1 : Int32), m5)) else bd (f_X12_next m5) fun (x7 : Int32) => lt1 (gsI m5 0 15 ((((10 : Int32) * (gI m5 0 15)) + x7) - (48 : Int32))) fun (m8 : gMem) => lt1 (gsI m8 0 14 ((gI m8 0 14) + (1 : Int32))) fun (m9 : gMem) => lt1 (x4 + (1 : Int32)) fun (x10 : Int32) => (self3 x10 m9)
def f_X12_takesNumber (mem : gMem) : Option (Int32 × gMem) := bd (f_X12_isDigit mem) fun (x1 : Int32) => if x1 = 0 then (some ((0 : Int32), mem)) else lt1 (gsI mem 0 15 (0 : Int32)) fun (m2 : gMem) => lq2 (s_X12_takesNumber_16) 1000 (0 : Int32) m2
set_option maxRecDepth 100000 in
set_option maxHeartbeats 4000000 in
theorem c_X12_takesNumber {l : Launch} {E : State → Prop} {D : va_G} {cy : Nat → ClassId} {ad : Nat → Nat} {L : List Nat} {mem : gMem} {rv : Int32} {memz : gMem} (hk : gOk ad L) (hL : ∀ o ∈ LM0, o ∈ L) (hE : gEok ad L E)  (h : f_X12_takesNumber mem = some (rv, memz)) : gMet l yX12_takesNumber cX12_takesNumber 2 (some .boolean) 2 43 E D cy shM ad L [.ref (ad 0)] mem memz (some (.int rv)) := by
  refine g_go (own := RX12) (by decide +kernel) rfl hE (Nat.le_of_ble_eq_true rfl) ?_
  intro p e s m args below meth c R Q hargs hR hQ hEs hC hr hX H locs ls hH hl
  have hF := gF_of hk
  have hl : lv_has ls 2 [(0, .ref (ad 0))] := hl
  refine lv_aload_n hC.x hC.b dX12_takesNumber_0 rfl (lv_at hl 0 rfl) ?_
  obtain ⟨x1, hf1, h⟩ := bd_e h
  refine c_V1 (As := []) (rest := []) (o := 0) (q := (RX12, TX12, 74)) hC hX hE.2.1 hF hH (c_X12_isDigit (l := l) hk hL hE hf1) kw661 kw662 kw663 kw5 kw664 a_X12_isDigit.1 a_X12_isDigit.2 (hL _ mM0) sM0 rfl rfl hl.1 (rmk hR (by decide) (by decide)) (Nat.le_of_ble_eq_true rfl) dX12_takesNumber_1 (fun H locs hH => ?_)
  refine b_if_ne (tgt := 9) hC dX12_takesNumber_4 (by decide) h (fun h => ?_) (fun h => ?_)
  · refine lv_aload_n hC.x hC.b dX12_takesNumber_9 rfl (lv_at hl 0 rfl) ?_
    refine lv_iconst (v := 0) hC.x hC.b dX12_takesNumber_10 rfl ?_
    refine r_puti hC hF hH pl_X12_57_12 (hL _ mM0) sM0 rfl h dX12_takesNumber_11 (fun m2 H locs h hH => ?_)
    refine lv_iconst (v := 0) hC.x hC.b dX12_takesNumber_14 rfl ?_
    refine lv_istore_n (lv' := [(1, .int (0 : Int32)), (0, .ref (ad 0))]) hC.x hC.b dX12_takesNumber_15 rfl hl (by decide) rfl (fun ls hl => ?_)
    have hl3 : ∀ (n : Nat) (x4 : Int32) (m5 : gMem) (H : Heap) (locs : List Loc) (ls : Array Slot), lq2 (s_X12_takesNumber_16) n x4 m5 = some (rv, memz) → gH D cy shM ad L (gA ad L) s.heap m5 H locs → lv_has ls 2 [(0, .ref (ad 0)), (1, .int x4)] → W p l e R s m args below meth c H locs 0 0 Q (F0 m 16 ls []) := by
      intro n
      induction n with
      | zero => intro x4 m5 H locs ls h _ _; exact lq2_0 h
      | succ n ih3 =>
        intro x4 m5 H locs ls h hH hl
        obtain ⟨self3, es3, h⟩ := lq2_s h
        refine lv_iload_n hC.x hC.b dX12_takesNumber_16 rfl (lv_at hl 1 rfl) ?_
        refine lv_iconst (v := 2) hC.x hC.b dX12_takesNumber_17 rfl ?_
        refine b_ic_ge (tgt := 63) hC dX12_takesNumber_18 (by decide) h (fun h => ?_) (fun h => ?_)
        · refine lv_iconst (v := 1) hC.x hC.b dX12_takesNumber_63 rfl ?_
          rw [hQ]
          exact e_n hC hr rfl hH h dX12_takesNumber_64
        · refine lv_aload_n hC.x hC.b dX12_takesNumber_21 rfl (lv_at hl 0 rfl) ?_
          obtain ⟨x6, hf6, h⟩ := bd_e h
          refine c_V1 (As := []) (rest := []) (o := 0) (q := (RX12, TX12, 74)) hC hX hE.2.1 hF hH (c_X12_isDigit (l := l) hk hL hE hf6) kw661 kw662 kw663 kw5 kw664 a_X12_isDigit.1 a_X12_isDigit.2 (hL _ mM0) sM0 rfl rfl hl.1 (rmk hR (by decide) (by decide)) (Nat.le_of_ble_eq_true rfl) dX12_takesNumber_22 (fun H locs hH => ?_)
          refine b_if_eq (tgt := 63) hC dX12_takesNumber_25 (by decide) h (fun h => ?_) (fun h => ?_)
          · refine lv_iconst (v := 1) hC.x hC.b dX12_takesNumber_63 rfl ?_
            rw [hQ]
            exact e_n hC hr rfl hH h dX12_takesNumber_64
          · refine lv_aload_n hC.x hC.b dX12_takesNumber_28 rfl (lv_at hl 0 rfl) ?_
            refine lv_bipush (v := 10) hC.x hC.b dX12_takesNumber_29 rfl ?_
            refine lv_aload_n hC.x hC.b dX12_takesNumber_31 rfl (lv_at hl 0 rfl) ?_
            refine r_geti hC hH fl_X12_57_12 (hL _ mM0) sM0 rfl dX12_takesNumber_32 ?_
            refine lv_imul hC.x hC.b dX12_takesNumber_35 ?_
            refine lv_aload_n hC.x hC.b dX12_takesNumber_36 rfl (lv_at hl 0 rfl) ?_
            obtain ⟨x7, hf7, h⟩ := bd_e h
            refine c_V1 (As := []) (rest := [.int ((10 : Int32) * (gI m5 0 15)), .ref (ad 0)]) (o := 0) (q := (RX12, TX12, 74)) hC hX hE.2.1 hF hH (c_X12_next (l := l) hk hL hE hf7) kw645 kw646 kw647 kw5 kw648 a_X12_next.1 a_X12_next.2 (hL _ mM0) sM0 rfl rfl hl.1 (rmk hR (by decide) (by decide)) (Nat.le_of_ble_eq_true rfl) dX12_takesNumber_37 (fun H locs hH => ?_)
            refine lv_iadd hC.x hC.b dX12_takesNumber_40 ?_
            refine lv_bipush (v := 48) hC.x hC.b dX12_takesNumber_41 rfl ?_
            refine lv_isub hC.x hC.b dX12_takesNumber_43 ?_
            refine r_puti hC hF hH pl_X12_57_12 (hL _ mM0) sM0 rfl h dX12_takesNumber_44 (fun m8 H locs h hH => ?_)
            refine lv_aload_n hC.x hC.b dX12_takesNumber_47 rfl (lv_at hl 0 rfl) ?_
            refine lv_dup hC.x hC.b dX12_takesNumber_48 rfl ?_
            refine r_geti hC hH fl_X12_54_12 (hL _ mM0) sM0 rfl dX12_takesNumber_49 ?_
            refine lv_iconst (v := 1) hC.x hC.b dX12_takesNumber_52 rfl ?_
            refine lv_iadd hC.x hC.b dX12_takesNumber_53 ?_
            refine r_puti hC hF hH pl_X12_54_12 (hL _ mM0) sM0 rfl h dX12_takesNumber_54 (fun m9 H locs h hH => ?_)
            refine i_inc (lv' := fun x10 => [(1, .int x10), (0, .ref (ad 0))]) hC dX12_takesNumber_57 hl (k := 1) rfl (by decide) (fun _ => rfl) (z := 1) rfl h (fun x10 ls h hl => ?_)
            refine lv_goto (tgt := 16) hC.x hC.b dX12_takesNumber_60 (by decide) ?_
            exact ih3 x10 m9 H locs ls (ap2 es3 h) hH (lv_sub hl [1, 0] rfl)
    exact hl3 _ (0 : Int32) m2 H locs ls h hH (lv_sub hl [1, 0] rfl)
  · refine lv_iconst (v := 0) hC.x hC.b dX12_takesNumber_7 rfl ?_
    rw [hQ]
    exact e_n hC hr rfl hH h dX12_takesNumber_8
theorem a_X12_holds : noMH yX12_holds.cls ∧ arity yX12_holds.desc 4 := by decide +kernel
theorem fl_X12_69_12 : gFl RX12 69 12 19 := ⟨RX12, TX12, 74, "OnTiptoeModel", rfl, inW12, by decide, kw95, Or.inl rfl⟩
def s_X12_sumOf_9 (p0 : Int32) (p1 : Int32) (p2 : Int32) (p3 : Int32) (self2 : Int32 → Int32 → gMem → Option (Int32 × gMem)) (x3 : Int32) (x4 : Int32) (m5 : gMem) : Option (Int32 × gMem) := bd (f_X12_behind m5) fun (x6 : Int32) => if x6 ≤ x4 then (some (x3, m5)) else if okI x4 60 then jn ((fun (x12 : Int32) (m13 : gMem) => lt1 (x3 + x12) fun (x14 : Int32) => lt1 (x4 + (1 : Int32)) fun (x15 : Int32) => (self2 x14 x15 m13)) : Int32 → gMem → Option (Int32 × gMem)) fun j7 => jn ((fun (m11 : gMem) => (j7 (0 : Int32) m11)) : gMem → Option (Int32 × gMem)) fun j8 => if (gI m5 8 (ix x4)) = p0 then (bd2 (f_X12_holds m5 x4 p1 p2 p3) fun (x10 : Int32) (m9 : gMem) => if x10 = 0 then ((j8 m9)) else if okI x4 60 then (j7 (gI m9 9 (ix x4)) m9) else none) else (j8 m5) else none
def f_X12_sumOf (mem : gMem) (p0 : Int32) (p1 : Int32) (p2 : Int32) (p3 : Int32) : Option (Int32 × gMem) := bd (f_X12_begin mem) fun (x1 : Int32) => lq3 (s_X12_sumOf_9 p0 p1 p2 p3) 1000 (0 : Int32) x1 mem
set_option maxRecDepth 100000 in
set_option maxHeartbeats 4000000 in
theorem c_X12_sumOf {l : Launch} {E : State → Prop} {D : va_G} {cy : Nat → ClassId} {ad : Nat → Nat} {L : List Nat} {mem : gMem} {p0 : Int32} {p1 : Int32} {p2 : Int32} {p3 : Int32} {rv : Int32} {memz : gMem} (hk : gOk ad L) (hL : ∀ o ∈ LM0, o ∈ L) (hE : gEok ad L E)  (h : f_X12_sumOf mem p0 p1 p2 p3 = some (rv, memz)) : gMet l yX12_sumOf cX12_sumOf 7 (some .int) 2 53 E D cy shM ad L [.ref (ad 0), .int p0, .int p1, .int p2, .int p3] mem memz (some (.int rv)) := by
  refine g_go (own := RX12) (by decide +kernel) rfl hE (Nat.le_of_ble_eq_true rfl) ?_
  intro p e s m args below meth c R Q hargs hR hQ hEs hC hr hX H locs ls hH hl
  have hF := gF_of hk
  have hl : lv_has ls 7 [(0, .ref (ad 0)), (1, .int p0), (2, .int p1), (3, .int p2), (4, .int p3)] := hl
  refine lv_iconst (v := 0) hC.x hC.b dX12_sumOf_0 rfl ?_
  refine lv_istore (lv' := [(5, .int (0 : Int32)), (0, .ref (ad 0)), (1, .int p0), (2, .int p1), (3, .int p2), (4, .int p3)]) hC.x hC.b dX12_sumOf_1 hl (by decide) rfl (fun ls hl => ?_)
  refine lv_aload_n hC.x hC.b dX12_sumOf_3 rfl (lv_at hl 1 rfl) ?_
  obtain ⟨x1, hf1, h⟩ := bd_e h
  refine c_V1 (As := []) (rest := []) (o := 0) (q := (RX12, TX12, 74)) hC hX hE.2.1 hF hH (c_X12_begin (l := l) hk hL hE hf1) kw396 kw397 kw398 kw5 kw399 a_X12_begin.1 a_X12_begin.2 (hL _ mM0) sM0 rfl rfl hl.1 (rmk hR (by decide) (by decide)) (Nat.le_of_ble_eq_true rfl) dX12_sumOf_4 (fun H locs hH => ?_)
  refine lv_istore (lv' := [(6, .int x1), (5, .int (0 : Int32)), (0, .ref (ad 0)), (1, .int p0), (2, .int p1), (3, .int p2), (4, .int p3)]) hC.x hC.b dX12_sumOf_7 hl (by decide) rfl (fun ls hl => ?_)
  have hl2 : ∀ (n : Nat) (x3 : Int32) (x4 : Int32) (m5 : gMem) (H : Heap) (locs : List Loc) (ls : Array Slot), lq3 (s_X12_sumOf_9 p0 p1 p2 p3) n x3 x4 m5 = some (rv, memz) → gH D cy shM ad L (gA ad L) s.heap m5 H locs → lv_has ls 7 [(0, .ref (ad 0)), (1, .int p0), (2, .int p1), (3, .int p2), (4, .int p3), (5, .int x3), (6, .int x4)] → W p l e R s m args below meth c H locs 0 0 Q (F0 m 9 ls []) := by
    intro n
    induction n with
    | zero => intro x3 x4 m5 H locs ls h _ _; exact lq3_0 h
    | succ n ih2 =>
      intro x3 x4 m5 H locs ls h hH hl
      obtain ⟨self2, es2, h⟩ := lq3_s h
      refine lv_iload hC.x hC.b dX12_sumOf_9 (lv_at hl 6 rfl) ?_
      refine lv_aload_n hC.x hC.b dX12_sumOf_11 rfl (lv_at hl 0 rfl) ?_
      obtain ⟨x6, hf6, h⟩ := bd_e h
      refine c_V1 (As := []) (rest := [.int x4]) (o := 0) (q := (RX12, TX12, 74)) hC hX hE.2.1 hF hH (c_X12_behind (l := l) hk hL hE hf6) kw400 kw401 kw402 kw5 kw403 a_X12_behind.1 a_X12_behind.2 (hL _ mM0) sM0 rfl rfl hl.1 (rmk hR (by decide) (by decide)) (Nat.le_of_ble_eq_true rfl) dX12_sumOf_12 (fun H locs hH => ?_)
      refine b_ic_ge (tgt := 64) hC dX12_sumOf_15 (by decide) h (fun h => ?_) (fun h => ?_)
      · refine lv_iload hC.x hC.b dX12_sumOf_64 (lv_at hl 5 rfl) ?_
        rw [hQ]
        exact e_i hC hr hH h dX12_sumOf_66
      · refine lv_iload hC.x hC.b dX12_sumOf_18 (lv_at hl 5 rfl) ?_
        refine lv_aload_n hC.x hC.b dX12_sumOf_20 rfl (lv_at hl 0 rfl) ?_
        refine r_getc (z := 8) hC hH fl_X12_66_12 (hL _ mM0) sM0 rfl dX12_sumOf_21 ?_
        refine lv_iload hC.x hC.b dX12_sumOf_24 (lv_at hl 6 rfl) ?_
        refine r_iald hC hH (hL _ mM8) sM8 h dX12_sumOf_26 (fun h => ?_)
        refine lv_iload_n hC.x hC.b dX12_sumOf_27 rfl (lv_at hl 1 rfl) ?_
        obtain ⟨j7, ej7, h⟩ := jn_e h
        have hj7 : ∀ (x12 : Int32) (m13 : gMem) (H : Heap) (locs : List Loc) (ls : Array Slot), (j7 x12 m13) = some (rv, memz) → gH D cy shM ad L (gA ad L) s.heap m13 H locs → lv_has ls 7 [(0, .ref (ad 0)), (1, .int p0), (2, .int p1), (3, .int p2), (4, .int p3), (6, .int x4)] → W p l e R s m args below meth c H locs 0 0 Q (F0 m 55 ls [.int x12, .int x3]) := by
          intro x12 m13 H locs ls h hH hl
          have h := ap2 ej7 h
          refine lv_iadd hC.x hC.b dX12_sumOf_55 ?_
          refine n_i h (fun x14 h => ?_)
          refine lv_istore (lv' := [(5, .int x14), (0, .ref (ad 0)), (1, .int p0), (2, .int p1), (3, .int p2), (4, .int p3), (6, .int x4)]) hC.x hC.b dX12_sumOf_56 hl (by decide) rfl (fun ls hl => ?_)
          refine i_inc (lv' := fun x15 => [(6, .int x15), (5, .int x14), (0, .ref (ad 0)), (1, .int p0), (2, .int p1), (3, .int p2), (4, .int p3)]) hC dX12_sumOf_58 hl (k := 6) rfl (by decide) (fun _ => rfl) (z := 1) rfl h (fun x15 ls h hl => ?_)
          refine lv_goto (tgt := 9) hC.x hC.b dX12_sumOf_61 (by decide) ?_
          exact ih2 x14 x15 m13 H locs ls (ap3 es2 h) hH (lv_sub hl [2, 3, 4, 5, 6, 1, 0] rfl)
        clear ej7
        obtain ⟨j8, ej8, h⟩ := jn_e h
        have hj8 : ∀ (m11 : gMem) (H : Heap) (locs : List Loc) (ls : Array Slot), (j8 m11) = some (rv, memz) → gH D cy shM ad L (gA ad L) s.heap m11 H locs → lv_has ls 7 [(0, .ref (ad 0)), (1, .int p0), (2, .int p1), (3, .int p2), (4, .int p3), (6, .int x4)] → W p l e R s m args below meth c H locs 0 0 Q (F0 m 54 ls [.int x3]) := by
          intro m11 H locs ls h hH hl
          have h := ap1 ej8 h
          refine lv_iconst (v := 0) hC.x hC.b dX12_sumOf_54 rfl ?_
          exact hj7 (0 : Int32) m11 H locs ls h hH (lv_sub hl [0, 1, 2, 3, 4, 5] rfl)
        clear ej8
        refine b_ic_ne (tgt := 54) hC dX12_sumOf_28 (by decide) h (fun h => ?_) (fun h => ?_)
        · exact hj8 m5 H locs ls h hH (lv_sub hl [0, 1, 2, 3, 4, 6] rfl)
        · refine lv_aload_n hC.x hC.b dX12_sumOf_31 rfl (lv_at hl 0 rfl) ?_
          refine lv_iload hC.x hC.b dX12_sumOf_32 (lv_at hl 6 rfl) ?_
          refine lv_iload_n hC.x hC.b dX12_sumOf_34 rfl (lv_at hl 2 rfl) ?_
          refine lv_iload_n hC.x hC.b dX12_sumOf_35 rfl (lv_at hl 3 rfl) ?_
          refine lv_iload hC.x hC.b dX12_sumOf_36 (lv_at hl 4 rfl) ?_
          obtain ⟨x10, m9, hf10, h⟩ := bd2_e h
          refine c_V1 (As := [.int x4, .int p1, .int p2, .int p3]) (rest := [.int x3]) (o := 0) (q := (RX12, TX12, 74)) hC hX hE.2.1 hF hH (c_X12_holds (l := l) hk hL hE hf10) kw404 kw405 kw406 kw5 kw407 a_X12_holds.1 a_X12_holds.2 (hL _ mM0) sM0 rfl rfl hl.1 (rmk hR (by decide) (by decide)) (Nat.le_of_ble_eq_true rfl) dX12_sumOf_38 (fun H locs hH => ?_)
          refine b_if_eq (tgt := 54) hC dX12_sumOf_41 (by decide) h (fun h => ?_) (fun h => ?_)
          · exact hj8 m9 H locs ls h hH (lv_sub hl [0, 1, 2, 3, 4, 6] rfl)
          · refine lv_aload_n hC.x hC.b dX12_sumOf_44 rfl (lv_at hl 0 rfl) ?_
            refine r_getc (z := 9) hC hH fl_X12_69_12 (hL _ mM0) sM0 rfl dX12_sumOf_45 ?_
            refine lv_iload hC.x hC.b dX12_sumOf_48 (lv_at hl 6 rfl) ?_
            refine r_iald hC hH (hL _ mM9) sM9 h dX12_sumOf_50 (fun h => ?_)
            refine lv_goto (tgt := 55) hC.x hC.b dX12_sumOf_51 (by decide) ?_
            exact hj7 (gI m9 9 (ix x4)) m9 H locs ls h hH (lv_sub hl [0, 1, 2, 3, 4, 6] rfl)
  exact hl2 _ (0 : Int32) x1 mem H locs ls h hH (lv_sub hl [2, 3, 4, 5, 6, 1, 0] rfl)
def f_X12_way (mem : gMem) (p0 : Int32) : Option (Int32 × gMem) := if p0 = (-1 : Int32) then (lt1 (gsI mem 0 30 (0 : Int32)) fun (m5 : gMem) => some ((0 : Int32), m5)) else jn ((if (gI mem 0 30) = (12 : Int32) then (some ((-4 : Int32), mem)) else if okI (gI mem 0 30) 12 then lt1 (gsI mem 16 (ix (gI mem 0 30)) p0) fun (m3 : gMem) => lt1 (gsI m3 0 30 ((gI m3 0 30) + (1 : Int32))) fun (m4 : gMem) => some ((gI m4 0 30), m4) else none) : Option (Int32 × gMem)) fun j1 => if p0 = (-2 : Int32) then (j1) else bd (f_X12_isBoard p0) fun (x2 : Int32) => if x2 = 0 then (some ((-1 : Int32), mem)) else j1
set_option maxRecDepth 100000 in
set_option maxHeartbeats 4000000 in
theorem c_X12_way {l : Launch} {E : State → Prop} {D : va_G} {cy : Nat → ClassId} {ad : Nat → Nat} {L : List Nat} {mem : gMem} {p0 : Int32} {rv : Int32} {memz : gMem} (hk : gOk ad L) (hL : ∀ o ∈ LM0, o ∈ L) (hE : gEok ad L E)  (h : f_X12_way mem p0 = some (rv, memz)) : gMet l yX12_way cX12_way 2 (some .int) 2 44 E D cy shM ad L [.ref (ad 0), .int p0] mem memz (some (.int rv)) := by
  refine g_go (own := RX12) (by decide +kernel) rfl hE (Nat.le_of_ble_eq_true rfl) ?_
  intro p e s m args below meth c R Q hargs hR hQ hEs hC hr hX H locs ls hH hl
  have hF := gF_of hk
  have hl : lv_has ls 2 [(0, .ref (ad 0)), (1, .int p0)] := hl
  refine lv_iload_n hC.x hC.b dX12_way_0 rfl (lv_at hl 1 rfl) ?_
  refine lv_iconst (v := -1) hC.x hC.b dX12_way_1 rfl ?_
  refine b_ic_ne (tgt := 12) hC dX12_way_2 (by decide) h (fun h => ?_) (fun h => ?_)
  · refine lv_iload_n hC.x hC.b dX12_way_12 rfl (lv_at hl 1 rfl) ?_
    refine lv_bipush (v := -2) hC.x hC.b dX12_way_13 rfl ?_
    obtain ⟨j1, ej1, h⟩ := jn_e h
    have hj1 : ∀  (H : Heap) (locs : List Loc) (ls : Array Slot), j1 = some (rv, memz) → gH D cy shM ad L (gA ad L) s.heap mem H locs → lv_has ls 2 [(0, .ref (ad 0)), (1, .int p0)] → W p l e R s m args below meth c H locs 0 0 Q (F0 m 28 ls []) := by
      intro H locs ls h hH hl
      have h := ap0 ej1 h
      refine lv_aload_n hC.x hC.b dX12_way_28 rfl (lv_at hl 0 rfl) ?_
      refine r_geti hC hH fl_X12_103_12 (hL _ mM0) sM0 rfl dX12_way_29 ?_
      refine lv_bipush (v := 12) hC.x hC.b dX12_way_32 rfl ?_
      refine b_ic_ne (tgt := 40) hC dX12_way_34 (by decide) h (fun h => ?_) (fun h => ?_)
      · refine lv_aload_n hC.x hC.b dX12_way_40 rfl (lv_at hl 0 rfl) ?_
        refine r_getc (z := 16) hC hH fl_X12_106_12 (hL _ mM0) sM0 rfl dX12_way_41 ?_
        refine lv_aload_n hC.x hC.b dX12_way_44 rfl (lv_at hl 0 rfl) ?_
        refine r_geti hC hH fl_X12_103_12 (hL _ mM0) sM0 rfl dX12_way_45 ?_
        refine lv_iload_n hC.x hC.b dX12_way_48 rfl (lv_at hl 1 rfl) ?_
        refine r_iast hC hF hH (hL _ mM16) sM16 h dX12_way_49 (fun m3 H locs h hH => ?_)
        refine lv_aload_n hC.x hC.b dX12_way_50 rfl (lv_at hl 0 rfl) ?_
        refine lv_dup hC.x hC.b dX12_way_51 rfl ?_
        refine r_geti hC hH fl_X12_103_12 (hL _ mM0) sM0 rfl dX12_way_52 ?_
        refine lv_iconst (v := 1) hC.x hC.b dX12_way_55 rfl ?_
        refine lv_iadd hC.x hC.b dX12_way_56 ?_
        refine r_puti hC hF hH pl_X12_103_12 (hL _ mM0) sM0 rfl h dX12_way_57 (fun m4 H locs h hH => ?_)
        refine lv_aload_n hC.x hC.b dX12_way_60 rfl (lv_at hl 0 rfl) ?_
        refine r_geti hC hH fl_X12_103_12 (hL _ mM0) sM0 rfl dX12_way_61 ?_
        rw [hQ]
        exact e_i hC hr hH h dX12_way_64
      · refine lv_bipush (v := -4) hC.x hC.b dX12_way_37 rfl ?_
        rw [hQ]
        exact e_i hC hr hH h dX12_way_39
    clear ej1
    refine b_ic_eq (tgt := 28) hC dX12_way_15 (by decide) h (fun h => ?_) (fun h => ?_)
    · exact hj1  H locs ls h hH (lv_sub hl [0, 1] rfl)
    · refine lv_aload_n hC.x hC.b dX12_way_18 rfl (lv_at hl 0 rfl) ?_
      refine lv_iload_n hC.x hC.b dX12_way_19 rfl (lv_at hl 1 rfl) ?_
      obtain ⟨x2, hf2, h⟩ := bd_e h
      refine c_V1 (As := [.int p0]) (rest := []) (o := 0) (q := (RX12, TX12, 74)) hC hX hE.2.1 hF hH (c_X12_isBoard (l := l) hk hL hE hf2) kw163 kw164 kw165 kw5 kw166 a_X12_isBoard.1 a_X12_isBoard.2 (hL _ mM0) sM0 rfl rfl hl.1 (rmk hR (by decide) (by decide)) (Nat.le_of_ble_eq_true rfl) dX12_way_20 (fun H locs hH => ?_)
      refine b_if_ne (tgt := 28) hC dX12_way_23 (by decide) h (fun h => ?_) (fun h => ?_)
      · exact hj1  H locs ls h hH (lv_sub hl [0, 1] rfl)
      · refine lv_iconst (v := -1) hC.x hC.b dX12_way_26 rfl ?_
        rw [hQ]
        exact e_i hC hr hH h dX12_way_27
  · refine lv_aload_n hC.x hC.b dX12_way_5 rfl (lv_at hl 0 rfl) ?_
    refine lv_iconst (v := 0) hC.x hC.b dX12_way_6 rfl ?_
    refine r_puti hC hF hH pl_X12_103_12 (hL _ mM0) sM0 rfl h dX12_way_7 (fun m5 H locs h hH => ?_)
    refine lv_iconst (v := 0) hC.x hC.b dX12_way_10 rfl ?_
    rw [hQ]
    exact e_i hC hr hH h dX12_way_11
def f_X12_see (mem : gMem) (p0 : Int32) (p1 : Int32) (p2 : Int32) : Option (Int32 × gMem) := if p0 = (-1 : Int32) then (lt1 (gsI mem 0 41 (0 : Int32)) fun (m7 : gMem) => some ((0 : Int32), m7)) else bd (f_X12_isBoard p0) fun (x1 : Int32) => if x1 = 0 then (some ((-1 : Int32), mem)) else bd (f_X12_in p1 (0 : Int32) (30 : Int32)) fun (x2 : Int32) => if x2 = 0 then (some ((-2 : Int32), mem)) else if (gI mem 0 41) = (6 : Int32) then (some ((-4 : Int32), mem)) else if okI (gI mem 0 41) 6 then lt1 (gsI mem 21 (ix (gI mem 0 41)) p0) fun (m3 : gMem) => if okI (gI m3 0 41) 6 then lt1 (gsI m3 22 (ix (gI m3 0 41)) p1) fun (m4 : gMem) => if okI (gI m4 0 41) 6 then lt1 (gsI m4 23 (ix (gI m4 0 41)) (vp_nar .boolean p2)) fun (m5 : gMem) => lt1 (gsI m5 0 41 ((gI m5 0 41) + (1 : Int32))) fun (m6 : gMem) => some ((gI m6 0 41), m6) else none else none else none
set_option maxRecDepth 100000 in
set_option maxHeartbeats 4000000 in
theorem c_X12_see {l : Launch} {E : State → Prop} {D : va_G} {cy : Nat → ClassId} {ad : Nat → Nat} {L : List Nat} {mem : gMem} {p0 : Int32} {p1 : Int32} {p2 : Int32} {rv : Int32} {memz : gMem} (hk : gOk ad L) (hL : ∀ o ∈ LM0, o ∈ L) (hE : gEok ad L E)  (h : f_X12_see mem p0 p1 p2 = some (rv, memz)) : gMet l yX12_see cX12_see 4 (some .int) 2 44 E D cy shM ad L [.ref (ad 0), .int p0, .int p1, .int p2] mem memz (some (.int rv)) := by
  refine g_go (own := RX12) (by decide +kernel) rfl hE (Nat.le_of_ble_eq_true rfl) ?_
  intro p e s m args below meth c R Q hargs hR hQ hEs hC hr hX H locs ls hH hl
  have hF := gF_of hk
  have hl : lv_has ls 4 [(0, .ref (ad 0)), (1, .int p0), (2, .int p1), (3, .int p2)] := hl
  refine lv_iload_n hC.x hC.b dX12_see_0 rfl (lv_at hl 1 rfl) ?_
  refine lv_iconst (v := -1) hC.x hC.b dX12_see_1 rfl ?_
  refine b_ic_ne (tgt := 12) hC dX12_see_2 (by decide) h (fun h => ?_) (fun h => ?_)
  · refine lv_aload_n hC.x hC.b dX12_see_12 rfl (lv_at hl 0 rfl) ?_
    refine lv_iload_n hC.x hC.b dX12_see_13 rfl (lv_at hl 1 rfl) ?_
    obtain ⟨x1, hf1, h⟩ := bd_e h
    refine c_V1 (As := [.int p0]) (rest := []) (o := 0) (q := (RX12, TX12, 74)) hC hX hE.2.1 hF hH (c_X12_isBoard (l := l) hk hL hE hf1) kw163 kw164 kw165 kw5 kw166 a_X12_isBoard.1 a_X12_isBoard.2 (hL _ mM0) sM0 rfl rfl hl.1 (rmk hR (by decide) (by decide)) (Nat.le_of_ble_eq_true rfl) dX12_see_14 (fun H locs hH => ?_)
    refine b_if_ne (tgt := 22) hC dX12_see_17 (by decide) h (fun h => ?_) (fun h => ?_)
    · refine lv_aload_n hC.x hC.b dX12_see_22 rfl (lv_at hl 0 rfl) ?_
      refine lv_iload_n hC.x hC.b dX12_see_23 rfl (lv_at hl 2 rfl) ?_
      refine lv_iconst (v := 0) hC.x hC.b dX12_see_24 rfl ?_
      refine lv_bipush (v := 30) hC.x hC.b dX12_see_25 rfl ?_
      obtain ⟨x2, hf2, h⟩ := bd_e h
      refine c_V1 (As := [.int p1, .int (0 : Int32), .int (30 : Int32)]) (rest := []) (o := 0) (q := (RX12, TX12, 74)) hC hX hE.2.1 hF hH (c_X12_in (l := l) hk hL hE hf2) kw167 kw168 kw169 kw5 kw170 a_X12_in.1 a_X12_in.2 (hL _ mM0) sM0 rfl rfl hl.1 (rmk hR (by decide) (by decide)) (Nat.le_of_ble_eq_true rfl) dX12_see_27 (fun H locs hH => ?_)
      refine b_if_ne (tgt := 36) hC dX12_see_30 (by decide) h (fun h => ?_) (fun h => ?_)
      · refine lv_aload_n hC.x hC.b dX12_see_36 rfl (lv_at hl 0 rfl) ?_
        refine r_geti hC hH fl_X12_136_12 (hL _ mM0) sM0 rfl dX12_see_37 ?_
        refine lv_bipush (v := 6) hC.x hC.b dX12_see_40 rfl ?_
        refine b_ic_ne (tgt := 48) hC dX12_see_42 (by decide) h (fun h => ?_) (fun h => ?_)
        · refine lv_aload_n hC.x hC.b dX12_see_48 rfl (lv_at hl 0 rfl) ?_
          refine r_getc (z := 21) hC hH fl_X12_139_12 (hL _ mM0) sM0 rfl dX12_see_49 ?_
          refine lv_aload_n hC.x hC.b dX12_see_52 rfl (lv_at hl 0 rfl) ?_
          refine r_geti hC hH fl_X12_136_12 (hL _ mM0) sM0 rfl dX12_see_53 ?_
          refine lv_iload_n hC.x hC.b dX12_see_56 rfl (lv_at hl 1 rfl) ?_
          refine r_iast hC hF hH (hL _ mM21) sM21 h dX12_see_57 (fun m3 H locs h hH => ?_)
          refine lv_aload_n hC.x hC.b dX12_see_58 rfl (lv_at hl 0 rfl) ?_
          refine r_getc (z := 22) hC hH fl_X12_142_12 (hL _ mM0) sM0 rfl dX12_see_59 ?_
          refine lv_aload_n hC.x hC.b dX12_see_62 rfl (lv_at hl 0 rfl) ?_
          refine r_geti hC hH fl_X12_136_12 (hL _ mM0) sM0 rfl dX12_see_63 ?_
          refine lv_iload_n hC.x hC.b dX12_see_66 rfl (lv_at hl 2 rfl) ?_
          refine r_iast hC hF hH (hL _ mM22) sM22 h dX12_see_67 (fun m4 H locs h hH => ?_)
          refine lv_aload_n hC.x hC.b dX12_see_68 rfl (lv_at hl 0 rfl) ?_
          refine r_getc (z := 23) hC hH fl_X12_145_12 (hL _ mM0) sM0 rfl dX12_see_69 ?_
          refine lv_aload_n hC.x hC.b dX12_see_72 rfl (lv_at hl 0 rfl) ?_
          refine r_geti hC hH fl_X12_136_12 (hL _ mM0) sM0 rfl dX12_see_73 ?_
          refine lv_iload_n hC.x hC.b dX12_see_76 rfl (lv_at hl 3 rfl) ?_
          refine r_zast hC hF hH (hL _ mM23) sM23 h dX12_see_77 (fun m5 H locs h hH => ?_)
          refine lv_aload_n hC.x hC.b dX12_see_78 rfl (lv_at hl 0 rfl) ?_
          refine lv_dup hC.x hC.b dX12_see_79 rfl ?_
          refine r_geti hC hH fl_X12_136_12 (hL _ mM0) sM0 rfl dX12_see_80 ?_
          refine lv_iconst (v := 1) hC.x hC.b dX12_see_83 rfl ?_
          refine lv_iadd hC.x hC.b dX12_see_84 ?_
          refine r_puti hC hF hH pl_X12_136_12 (hL _ mM0) sM0 rfl h dX12_see_85 (fun m6 H locs h hH => ?_)
          refine lv_aload_n hC.x hC.b dX12_see_88 rfl (lv_at hl 0 rfl) ?_
          refine r_geti hC hH fl_X12_136_12 (hL _ mM0) sM0 rfl dX12_see_89 ?_
          rw [hQ]
          exact e_i hC hr hH h dX12_see_92
        · refine lv_bipush (v := -4) hC.x hC.b dX12_see_45 rfl ?_
          rw [hQ]
          exact e_i hC hr hH h dX12_see_47
      · refine lv_bipush (v := -2) hC.x hC.b dX12_see_33 rfl ?_
        rw [hQ]
        exact e_i hC hr hH h dX12_see_35
    · refine lv_iconst (v := -1) hC.x hC.b dX12_see_20 rfl ?_
      rw [hQ]
      exact e_i hC hr hH h dX12_see_21
  · refine lv_aload_n hC.x hC.b dX12_see_5 rfl (lv_at hl 0 rfl) ?_
    refine lv_iconst (v := 0) hC.x hC.b dX12_see_6 rfl ?_
    refine r_puti hC hF hH pl_X12_136_12 (hL _ mM0) sM0 rfl h dX12_see_7 (fun m7 H locs h hH => ?_)
    refine lv_iconst (v := 0) hC.x hC.b dX12_see_10 rfl ?_
    rw [hQ]
    exact e_i hC hr hH h dX12_see_11
theorem a_X12_isTape : noMH yX12_isTape.cls ∧ arity yX12_isTape.desc 1 := by decide +kernel
theorem fl_X12_223_12 : gFl RX12 223 12 70 := ⟨RX12, TX12, 74, "OnTiptoeModel", rfl, inW12, by decide, kw147, Or.inl rfl⟩
theorem fl_X12_226_12 : gFl RX12 226 12 71 := ⟨RX12, TX12, 74, "OnTiptoeModel", rfl, inW12, by decide, kw148, Or.inl rfl⟩
theorem fl_X12_229_12 : gFl RX12 229 12 72 := ⟨RX12, TX12, 74, "OnTiptoeModel", rfl, inW12, by decide, kw149, Or.inl rfl⟩
def s_X12_judge_24 (p0 : Int32) (mem : gMem) (p1 : Int32) (self2 : Int32 → Option Int32) (x3 : Int32) : Option Int32 := if (12 : Int32) ≤ x3 then (some (-5 : Int32)) else if okI p0 6 then if (gI mem 36 (ix p0)) < 0 then (some ((100 : Int32) + x3)) else if p1 < 0 then (some ((100 : Int32) + x3)) else if okI p0 6 then if p1 ≤ (((gI mem 37 (ix p0)) - x3) - (1 : Int32)) then (if okI ((((60 : Int32) * p0) + p1) + x3) 360 then if okI x3 12 then if (lg_cmp (gJ mem 38 (ix ((((60 : Int32) * p0) + p1) + x3))) ((gI mem 1 (ix x3)).toInt64)) = 0 then (lt1 (x3 + (1 : Int32)) fun (x4 : Int32) => (self2 x4)) else some x3 else none else none) else some ((100 : Int32) + x3) else none else none
def f_X12_judge (mem : gMem) (p0 : Int32) (p1 : Int32) : Option Int32 := bd (f_X12_isTape p0) fun (x1 : Int32) => if x1 = 0 then (some (-1 : Int32)) else if okI p0 6 then if (gI mem 36 (ix p0)) ≤ 0 then (lq1 (s_X12_judge_24 p0 mem p1) 1000 (0 : Int32)) else some (-12 : Int32) else none
set_option maxRecDepth 100000 in
set_option maxHeartbeats 4000000 in
theorem c_X12_judge {l : Launch} {E : State → Prop} {D : va_G} {cy : Nat → ClassId} {ad : Nat → Nat} {L : List Nat} {mem : gMem} {p0 : Int32} {p1 : Int32} {rv : Int32} (hk : gOk ad L) (hL : ∀ o ∈ LM0, o ∈ L) (hE : gEok ad L E)  (h : f_X12_judge mem p0 p1 = some rv) : gMet l yX12_judge cX12_judge 4 (some .int) 2 44 E D cy shM ad L [.ref (ad 0), .int p0, .int p1] mem mem (some (.int rv)) := by
  refine g_go (own := RX12) (by decide +kernel) rfl hE (Nat.le_of_ble_eq_true rfl) ?_
  intro p e s m args below meth c R Q hargs hR hQ hEs hC hr hX H locs ls hH hl
  have hF := gF_of hk
  have hl : lv_has ls 4 [(0, .ref (ad 0)), (1, .int p0), (2, .int p1)] := hl
  refine lv_aload_n hC.x hC.b dX12_judge_0 rfl (lv_at hl 0 rfl) ?_
  refine lv_iload_n hC.x hC.b dX12_judge_1 rfl (lv_at hl 1 rfl) ?_
  obtain ⟨x1, hf1, h⟩ := bd_e h
  refine c_V1 (As := [.int p0]) (rest := []) (o := 0) (q := (RX12, TX12, 74)) hC hX hE.2.1 hF hH (c_X12_isTape (l := l) hk hL hE hf1) kw1053 kw1054 kw1055 kw5 kw1056 a_X12_isTape.1 a_X12_isTape.2 (hL _ mM0) sM0 rfl rfl hl.1 (rmk hR (by decide) (by decide)) (Nat.le_of_ble_eq_true rfl) dX12_judge_2 (fun H locs hH => ?_)
  refine b_if_ne (tgt := 10) hC dX12_judge_5 (by decide) h (fun h => ?_) (fun h => ?_)
  · refine lv_aload_n hC.x hC.b dX12_judge_10 rfl (lv_at hl 0 rfl) ?_
    refine r_getc (z := 36) hC hH fl_X12_223_12 (hL _ mM0) sM0 rfl dX12_judge_11 ?_
    refine lv_iload_n hC.x hC.b dX12_judge_14 rfl (lv_at hl 1 rfl) ?_
    refine r_iald hC hH (hL _ mM36) sM36 h dX12_judge_15 (fun h => ?_)
    refine b_if_le (tgt := 22) hC dX12_judge_16 (by decide) h (fun h => ?_) (fun h => ?_)
    · refine lv_iconst (v := 0) hC.x hC.b dX12_judge_22 rfl ?_
      refine lv_istore_n (lv' := [(3, .int (0 : Int32)), (0, .ref (ad 0)), (1, .int p0), (2, .int p1)]) hC.x hC.b dX12_judge_23 rfl hl (by decide) rfl (fun ls hl => ?_)
      have hl2 : ∀ (n : Nat) (x3 : Int32) (H : Heap) (locs : List Loc) (ls : Array Slot), lq1 (s_X12_judge_24 p0 mem p1) n x3 = some rv → gH D cy shM ad L (gA ad L) s.heap mem H locs → lv_has ls 4 [(0, .ref (ad 0)), (1, .int p0), (2, .int p1), (3, .int x3)] → W p l e R s m args below meth c H locs 0 0 Q (F0 m 24 ls []) := by
        intro n
        induction n with
        | zero => intro x3 H locs ls h _ _; exact lq1_0 h
        | succ n ih2 =>
          intro x3 H locs ls h hH hl
          obtain ⟨self2, es2, h⟩ := lq1_s h
          refine lv_iload_n hC.x hC.b dX12_judge_24 rfl (lv_at hl 3 rfl) ?_
          refine lv_bipush (v := 12) hC.x hC.b dX12_judge_25 rfl ?_
          refine b_ic_ge (tgt := 94) hC dX12_judge_27 (by decide) h (fun h => ?_) (fun h => ?_)
          · refine lv_bipush (v := -5) hC.x hC.b dX12_judge_94 rfl ?_
            rw [hQ]
            exact e_ir hC hr hH h dX12_judge_96
          · refine lv_aload_n hC.x hC.b dX12_judge_30 rfl (lv_at hl 0 rfl) ?_
            refine r_getc (z := 36) hC hH fl_X12_223_12 (hL _ mM0) sM0 rfl dX12_judge_31 ?_
            refine lv_iload_n hC.x hC.b dX12_judge_34 rfl (lv_at hl 1 rfl) ?_
            refine r_iald hC hH (hL _ mM36) sM36 h dX12_judge_35 (fun h => ?_)
            refine b_if_lt (tgt := 57) hC dX12_judge_36 (by decide) h (fun h => ?_) (fun h => ?_)
            · refine lv_bipush (v := 100) hC.x hC.b dX12_judge_57 rfl ?_
              refine lv_iload_n hC.x hC.b dX12_judge_59 rfl (lv_at hl 3 rfl) ?_
              refine lv_iadd hC.x hC.b dX12_judge_60 ?_
              rw [hQ]
              exact e_ir hC hr hH h dX12_judge_61
            · refine lv_iload_n hC.x hC.b dX12_judge_39 rfl (lv_at hl 2 rfl) ?_
              refine b_if_lt (tgt := 57) hC dX12_judge_40 (by decide) h (fun h => ?_) (fun h => ?_)
              · refine lv_bipush (v := 100) hC.x hC.b dX12_judge_57 rfl ?_
                refine lv_iload_n hC.x hC.b dX12_judge_59 rfl (lv_at hl 3 rfl) ?_
                refine lv_iadd hC.x hC.b dX12_judge_60 ?_
                rw [hQ]
                exact e_ir hC hr hH h dX12_judge_61
              · refine lv_iload_n hC.x hC.b dX12_judge_43 rfl (lv_at hl 2 rfl) ?_
                refine lv_aload_n hC.x hC.b dX12_judge_44 rfl (lv_at hl 0 rfl) ?_
                refine r_getc (z := 37) hC hH fl_X12_226_12 (hL _ mM0) sM0 rfl dX12_judge_45 ?_
                refine lv_iload_n hC.x hC.b dX12_judge_48 rfl (lv_at hl 1 rfl) ?_
                refine r_iald hC hH (hL _ mM37) sM37 h dX12_judge_49 (fun h => ?_)
                refine lv_iload_n hC.x hC.b dX12_judge_50 rfl (lv_at hl 3 rfl) ?_
                refine lv_isub hC.x hC.b dX12_judge_51 ?_
                refine lv_iconst (v := 1) hC.x hC.b dX12_judge_52 rfl ?_
                refine lv_isub hC.x hC.b dX12_judge_53 ?_
                refine b_ic_le (tgt := 62) hC dX12_judge_54 (by decide) h (fun h => ?_) (fun h => ?_)
                · refine lv_aload_n hC.x hC.b dX12_judge_62 rfl (lv_at hl 0 rfl) ?_
                  refine r_getc (z := 38) hC hH fl_X12_229_12 (hL _ mM0) sM0 rfl dX12_judge_63 ?_
                  refine lv_bipush (v := 60) hC.x hC.b dX12_judge_66 rfl ?_
                  refine lv_iload_n hC.x hC.b dX12_judge_68 rfl (lv_at hl 1 rfl) ?_
                  refine lv_imul hC.x hC.b dX12_judge_69 ?_
                  refine lv_iload_n hC.x hC.b dX12_judge_70 rfl (lv_at hl 2 rfl) ?_
                  refine lv_iadd hC.x hC.b dX12_judge_71 ?_
                  refine lv_iload_n hC.x hC.b dX12_judge_72 rfl (lv_at hl 3 rfl) ?_
                  refine lv_iadd hC.x hC.b dX12_judge_73 ?_
                  refine r_lald hC hH (hL _ mM38) sM38 h dX12_judge_74 (fun h => ?_)
                  refine lv_aload_n hC.x hC.b dX12_judge_75 rfl (lv_at hl 0 rfl) ?_
                  refine r_getc (z := 1) hC hH fl_X12_29_12 (hL _ mM0) sM0 rfl dX12_judge_76 ?_
                  refine lv_iload_n hC.x hC.b dX12_judge_79 rfl (lv_at hl 3 rfl) ?_
                  refine r_iald hC hH (hL _ mM1) sM1 h dX12_judge_80 (fun h => ?_)
                  refine lv_i2l hC.x hC.b dX12_judge_81 rfl ?_
                  refine W.lcmp hC.x hC.b dX12_judge_82 ?_
                  refine b_if_eq (tgt := 88) hC dX12_judge_83 (by decide) h (fun h => ?_) (fun h => ?_)
                  · refine i_inc (lv' := fun x4 => [(3, .int x4), (0, .ref (ad 0)), (1, .int p0), (2, .int p1)]) hC dX12_judge_88 hl (k := 3) rfl (by decide) (fun _ => rfl) (z := 1) rfl h (fun x4 ls h hl => ?_)
                    refine lv_goto (tgt := 24) hC.x hC.b dX12_judge_91 (by decide) ?_
                    exact ih2 x4 H locs ls (ap1 es2 h) hH (lv_sub hl [1, 2, 3, 0] rfl)
                  · refine lv_iload_n hC.x hC.b dX12_judge_86 rfl (lv_at hl 3 rfl) ?_
                    rw [hQ]
                    exact e_ir hC hr hH h dX12_judge_87
                · refine lv_bipush (v := 100) hC.x hC.b dX12_judge_57 rfl ?_
                  refine lv_iload_n hC.x hC.b dX12_judge_59 rfl (lv_at hl 3 rfl) ?_
                  refine lv_iadd hC.x hC.b dX12_judge_60 ?_
                  rw [hQ]
                  exact e_ir hC hr hH h dX12_judge_61
      exact hl2 _ (0 : Int32) H locs ls h hH (lv_sub hl [1, 2, 3, 0] rfl)
    · refine lv_bipush (v := -12) hC.x hC.b dX12_judge_19 rfl ?_
      rw [hQ]
      exact e_ir hC hr hH h dX12_judge_21
  · refine lv_iconst (v := -1) hC.x hC.b dX12_judge_8 rfl ?_
    rw [hQ]
    exact e_ir hC hr hH h dX12_judge_9
theorem a_X12_walkerTreads : noMH yX12_walkerTreads.cls ∧ arity yX12_walkerTreads.desc 2 := by decide +kernel
def f_X12_treadsAct (mem : gMem) (p0 : Int32) (p1 : Int32) : Option (Int32 × gMem) := if okI p0 4 then lt1 (gI mem 2 (ix p0)) fun (x1 : Int32) => if x1 = 2 then (bd (f_X12_body mem (30 : Int32)) fun (m2 : gMem) => bd2 (f_X12_walkerTreads m2 p0 (p1 * (3 : Int32))) fun (x4 : Int32) (m3 : gMem) => some (x4, m3)) else if x1 = 3 then (bd2 (f_X12_walkerTreads mem p0 p1) fun (x6 : Int32) (m5 : gMem) => some (x6, m5)) else if x1 = 4 then (bd (f_X12_body mem (50 : Int32)) fun (m7 : gMem) => bd2 (f_X12_walkerTreads m7 p0 p1) fun (x9 : Int32) (m8 : gMem) => some ((-x9), m8)) else if x1 = 5 then (bd (f_X12_body mem (30 : Int32)) fun (m10 : gMem) => bd2 (f_X12_walkerTreads m10 p0 (p1 * (3 : Int32))) fun (x12 : Int32) (m11 : gMem) => some (x12, m11)) else if x1 = 6 then (bd (f_X12_body mem (71 : Int32)) fun (m13 : gMem) => bd2 (f_X12_walkerTreads m13 p0 p1) fun (x15 : Int32) (m14 : gMem) => if okI p0 4 then some ((x15 ^^^ (gI m14 3 (ix p0))), m14) else none) else bd2 (f_X12_walkerTreads mem p0 p1) fun (x17 : Int32) (m16 : gMem) => some (x17, m16) else none
set_option maxRecDepth 100000 in
set_option maxHeartbeats 4000000 in
theorem c_X12_treadsAct {l : Launch} {E : State → Prop} {D : va_G} {cy : Nat → ClassId} {ad : Nat → Nat} {L : List Nat} {mem : gMem} {p0 : Int32} {p1 : Int32} {rv : Int32} {memz : gMem} (hk : gOk ad L) (hL : ∀ o ∈ LM0, o ∈ L) (hE : gEok ad L E)  (h : f_X12_treadsAct mem p0 p1 = some (rv, memz)) : gMet l yX12_treadsAct cX12_treadsAct 3 (some .int) 2 43 E D cy shM ad L [.ref (ad 0), .int p0, .int p1] mem memz (some (.int rv)) := by
  refine g_go (own := RX12) (by decide +kernel) rfl hE (Nat.le_of_ble_eq_true rfl) ?_
  intro p e s m args below meth c R Q hargs hR hQ hEs hC hr hX H locs ls hH hl
  have hF := gF_of hk
  have hl : lv_has ls 3 [(0, .ref (ad 0)), (1, .int p0), (2, .int p1)] := hl
  refine lv_aload_n hC.x hC.b dX12_treadsAct_0 rfl (lv_at hl 0 rfl) ?_
  refine r_getc (z := 2) hC hH fl_X12_33_12 (hL _ mM0) sM0 rfl dX12_treadsAct_1 ?_
  refine lv_iload_n hC.x hC.b dX12_treadsAct_4 rfl (lv_at hl 1 rfl) ?_
  refine r_iald hC hH (hL _ mM2) sM2 h dX12_treadsAct_5 (fun h => ?_)
  refine n_i h (fun x1 h => ?_)
  by_cases hx0 : x1 = 2
  · have h := ifp hx0 h
    refine lv_tableIn (off := 34) (tgt := 40) hC.x hC.b dX12_treadsAct_6 (by rw [hx0]; decide) (by rw [hx0]; decide) (by rw [hx0]; rfl) (by decide) ?_
    refine lv_aload_n hC.x hC.b dX12_treadsAct_40 rfl (lv_at hl 0 rfl) ?_
    refine lv_bipush (v := 30) hC.x hC.b dX12_treadsAct_41 rfl ?_
    obtain ⟨m2, hf2, h⟩ := bd_e h
    refine c_V0 (As := [.int (30 : Int32)]) (rest := []) (o := 0) (q := (RX12, TX12, 74)) hC hX hE.2.1 hF hH (c_X12_body (l := l) hk hL hE hf2) kw1242 kw1243 kw1244 kw5 kw1245 a_X12_body.1 a_X12_body.2 (hL _ mM0) sM0 rfl rfl hl.1 (rmk hR (by decide) (by decide)) (Nat.le_of_ble_eq_true rfl) dX12_treadsAct_43 (fun H locs hH => ?_)
    refine lv_aload_n hC.x hC.b dX12_treadsAct_46 rfl (lv_at hl 0 rfl) ?_
    refine lv_iload_n hC.x hC.b dX12_treadsAct_47 rfl (lv_at hl 1 rfl) ?_
    refine lv_iload_n hC.x hC.b dX12_treadsAct_48 rfl (lv_at hl 2 rfl) ?_
    refine lv_iconst (v := 3) hC.x hC.b dX12_treadsAct_49 rfl ?_
    refine lv_imul hC.x hC.b dX12_treadsAct_50 ?_
    obtain ⟨x4, m3, hf4, h⟩ := bd2_e h
    refine c_V1 (As := [.int p0, .int (p1 * (3 : Int32))]) (rest := []) (o := 0) (q := (RX12, TX12, 74)) hC hX hE.2.1 hF hH (c_X12_walkerTreads (l := l) hk hL hE hf4) kw1246 kw1247 kw1248 kw5 kw1249 a_X12_walkerTreads.1 a_X12_walkerTreads.2 (hL _ mM0) sM0 rfl rfl hl.1 (rmk hR (by decide) (by decide)) (Nat.le_of_ble_eq_true rfl) dX12_treadsAct_51 (fun H locs hH => ?_)
    rw [hQ]
    exact e_i hC hr hH h dX12_treadsAct_54
  have h := ifn hx0 h
  by_cases hx1 : x1 = 3
  · have h := ifp hx1 h
    refine lv_tableIn (off := 83) (tgt := 89) hC.x hC.b dX12_treadsAct_6 (by rw [hx1]; decide) (by rw [hx1]; decide) (by rw [hx1]; rfl) (by decide) ?_
    refine lv_aload_n hC.x hC.b dX12_treadsAct_89 rfl (lv_at hl 0 rfl) ?_
    refine lv_iload_n hC.x hC.b dX12_treadsAct_90 rfl (lv_at hl 1 rfl) ?_
    refine lv_iload_n hC.x hC.b dX12_treadsAct_91 rfl (lv_at hl 2 rfl) ?_
    obtain ⟨x6, m5, hf6, h⟩ := bd2_e h
    refine c_V1 (As := [.int p0, .int p1]) (rest := []) (o := 0) (q := (RX12, TX12, 74)) hC hX hE.2.1 hF hH (c_X12_walkerTreads (l := l) hk hL hE hf6) kw1246 kw1247 kw1248 kw5 kw1249 a_X12_walkerTreads.1 a_X12_walkerTreads.2 (hL _ mM0) sM0 rfl rfl hl.1 (rmk hR (by decide) (by decide)) (Nat.le_of_ble_eq_true rfl) dX12_treadsAct_92 (fun H locs hH => ?_)
    rw [hQ]
    exact e_i hC hr hH h dX12_treadsAct_95
  have h := ifn hx1 h
  by_cases hx2 : x1 = 4
  · have h := ifp hx2 h
    refine lv_tableIn (off := 49) (tgt := 55) hC.x hC.b dX12_treadsAct_6 (by rw [hx2]; decide) (by rw [hx2]; decide) (by rw [hx2]; rfl) (by decide) ?_
    refine lv_aload_n hC.x hC.b dX12_treadsAct_55 rfl (lv_at hl 0 rfl) ?_
    refine lv_bipush (v := 50) hC.x hC.b dX12_treadsAct_56 rfl ?_
    obtain ⟨m7, hf7, h⟩ := bd_e h
    refine c_V0 (As := [.int (50 : Int32)]) (rest := []) (o := 0) (q := (RX12, TX12, 74)) hC hX hE.2.1 hF hH (c_X12_body (l := l) hk hL hE hf7) kw1242 kw1243 kw1244 kw5 kw1245 a_X12_body.1 a_X12_body.2 (hL _ mM0) sM0 rfl rfl hl.1 (rmk hR (by decide) (by decide)) (Nat.le_of_ble_eq_true rfl) dX12_treadsAct_58 (fun H locs hH => ?_)
    refine lv_aload_n hC.x hC.b dX12_treadsAct_61 rfl (lv_at hl 0 rfl) ?_
    refine lv_iload_n hC.x hC.b dX12_treadsAct_62 rfl (lv_at hl 1 rfl) ?_
    refine lv_iload_n hC.x hC.b dX12_treadsAct_63 rfl (lv_at hl 2 rfl) ?_
    obtain ⟨x9, m8, hf9, h⟩ := bd2_e h
    refine c_V1 (As := [.int p0, .int p1]) (rest := []) (o := 0) (q := (RX12, TX12, 74)) hC hX hE.2.1 hF hH (c_X12_walkerTreads (l := l) hk hL hE hf9) kw1246 kw1247 kw1248 kw5 kw1249 a_X12_walkerTreads.1 a_X12_walkerTreads.2 (hL _ mM0) sM0 rfl rfl hl.1 (rmk hR (by decide) (by decide)) (Nat.le_of_ble_eq_true rfl) dX12_treadsAct_64 (fun H locs hH => ?_)
    refine lv_ineg hC.x hC.b dX12_treadsAct_67 ?_
    rw [hQ]
    exact e_i hC hr hH h dX12_treadsAct_68
  have h := ifn hx2 h
  by_cases hx3 : x1 = 5
  · have h := ifp hx3 h
    refine lv_tableIn (off := 34) (tgt := 40) hC.x hC.b dX12_treadsAct_6 (by rw [hx3]; decide) (by rw [hx3]; decide) (by rw [hx3]; rfl) (by decide) ?_
    refine lv_aload_n hC.x hC.b dX12_treadsAct_40 rfl (lv_at hl 0 rfl) ?_
    refine lv_bipush (v := 30) hC.x hC.b dX12_treadsAct_41 rfl ?_
    obtain ⟨m10, hf10, h⟩ := bd_e h
    refine c_V0 (As := [.int (30 : Int32)]) (rest := []) (o := 0) (q := (RX12, TX12, 74)) hC hX hE.2.1 hF hH (c_X12_body (l := l) hk hL hE hf10) kw1242 kw1243 kw1244 kw5 kw1245 a_X12_body.1 a_X12_body.2 (hL _ mM0) sM0 rfl rfl hl.1 (rmk hR (by decide) (by decide)) (Nat.le_of_ble_eq_true rfl) dX12_treadsAct_43 (fun H locs hH => ?_)
    refine lv_aload_n hC.x hC.b dX12_treadsAct_46 rfl (lv_at hl 0 rfl) ?_
    refine lv_iload_n hC.x hC.b dX12_treadsAct_47 rfl (lv_at hl 1 rfl) ?_
    refine lv_iload_n hC.x hC.b dX12_treadsAct_48 rfl (lv_at hl 2 rfl) ?_
    refine lv_iconst (v := 3) hC.x hC.b dX12_treadsAct_49 rfl ?_
    refine lv_imul hC.x hC.b dX12_treadsAct_50 ?_
    obtain ⟨x12, m11, hf12, h⟩ := bd2_e h
    refine c_V1 (As := [.int p0, .int (p1 * (3 : Int32))]) (rest := []) (o := 0) (q := (RX12, TX12, 74)) hC hX hE.2.1 hF hH (c_X12_walkerTreads (l := l) hk hL hE hf12) kw1246 kw1247 kw1248 kw5 kw1249 a_X12_walkerTreads.1 a_X12_walkerTreads.2 (hL _ mM0) sM0 rfl rfl hl.1 (rmk hR (by decide) (by decide)) (Nat.le_of_ble_eq_true rfl) dX12_treadsAct_51 (fun H locs hH => ?_)
    rw [hQ]
    exact e_i hC hr hH h dX12_treadsAct_54
  have h := ifn hx3 h
  by_cases hx4 : x1 = 6
  · have h := ifp hx4 h
    refine lv_tableIn (off := 63) (tgt := 69) hC.x hC.b dX12_treadsAct_6 (by rw [hx4]; decide) (by rw [hx4]; decide) (by rw [hx4]; rfl) (by decide) ?_
    refine lv_aload_n hC.x hC.b dX12_treadsAct_69 rfl (lv_at hl 0 rfl) ?_
    refine lv_bipush (v := 71) hC.x hC.b dX12_treadsAct_70 rfl ?_
    obtain ⟨m13, hf13, h⟩ := bd_e h
    refine c_V0 (As := [.int (71 : Int32)]) (rest := []) (o := 0) (q := (RX12, TX12, 74)) hC hX hE.2.1 hF hH (c_X12_body (l := l) hk hL hE hf13) kw1242 kw1243 kw1244 kw5 kw1245 a_X12_body.1 a_X12_body.2 (hL _ mM0) sM0 rfl rfl hl.1 (rmk hR (by decide) (by decide)) (Nat.le_of_ble_eq_true rfl) dX12_treadsAct_72 (fun H locs hH => ?_)
    refine lv_aload_n hC.x hC.b dX12_treadsAct_75 rfl (lv_at hl 0 rfl) ?_
    refine lv_iload_n hC.x hC.b dX12_treadsAct_76 rfl (lv_at hl 1 rfl) ?_
    refine lv_iload_n hC.x hC.b dX12_treadsAct_77 rfl (lv_at hl 2 rfl) ?_
    obtain ⟨x15, m14, hf15, h⟩ := bd2_e h
    refine c_V1 (As := [.int p0, .int p1]) (rest := []) (o := 0) (q := (RX12, TX12, 74)) hC hX hE.2.1 hF hH (c_X12_walkerTreads (l := l) hk hL hE hf15) kw1246 kw1247 kw1248 kw5 kw1249 a_X12_walkerTreads.1 a_X12_walkerTreads.2 (hL _ mM0) sM0 rfl rfl hl.1 (rmk hR (by decide) (by decide)) (Nat.le_of_ble_eq_true rfl) dX12_treadsAct_78 (fun H locs hH => ?_)
    refine lv_aload_n hC.x hC.b dX12_treadsAct_81 rfl (lv_at hl 0 rfl) ?_
    refine r_getc (z := 3) hC hH fl_X12_36_12 (hL _ mM0) sM0 rfl dX12_treadsAct_82 ?_
    refine lv_iload_n hC.x hC.b dX12_treadsAct_85 rfl (lv_at hl 1 rfl) ?_
    refine r_iald hC hH (hL _ mM3) sM3 h dX12_treadsAct_86 (fun h => ?_)
    refine lv_ixor hC.x hC.b dX12_treadsAct_87 ?_
    rw [hQ]
    exact e_i hC hr hH h dX12_treadsAct_88
  have h := ifn hx4 h
  refine lv_tableOut (tgt := 89) hC.x hC.b dX12_treadsAct_6 (by have a0 := ne_ti (v := 2) (z := 2) rfl hx0; have a1 := ne_ti (v := 3) (z := 3) rfl hx1; have a2 := ne_ti (v := 4) (z := 4) rfl hx2; have a3 := ne_ti (v := 5) (z := 5) rfl hx3; have a4 := ne_ti (v := 6) (z := 6) rfl hx4; omega) (by decide) ?_
  refine lv_aload_n hC.x hC.b dX12_treadsAct_89 rfl (lv_at hl 0 rfl) ?_
  refine lv_iload_n hC.x hC.b dX12_treadsAct_90 rfl (lv_at hl 1 rfl) ?_
  refine lv_iload_n hC.x hC.b dX12_treadsAct_91 rfl (lv_at hl 2 rfl) ?_
  obtain ⟨x17, m16, hf17, h⟩ := bd2_e h
  refine c_V1 (As := [.int p0, .int p1]) (rest := []) (o := 0) (q := (RX12, TX12, 74)) hC hX hE.2.1 hF hH (c_X12_walkerTreads (l := l) hk hL hE hf17) kw1246 kw1247 kw1248 kw5 kw1249 a_X12_walkerTreads.1 a_X12_walkerTreads.2 (hL _ mM0) sM0 rfl rfl hl.1 (rmk hR (by decide) (by decide)) (Nat.le_of_ble_eq_true rfl) dX12_treadsAct_92 (fun H locs hH => ?_)
  rw [hQ]
  exact e_i hC hr hH h dX12_treadsAct_95
def f_X12_taken (mem : gMem) (p0 : Int32) (p1 : Int32) : Option Int32 := bd (f_X12_in p1 (0 : Int32) (6 : Int32)) fun (x1 : Int32) => if x1 = 0 then (some (-2 : Int32)) else bd (f_X12_isWalker mem p0) fun (x2 : Int32) => if x2 = 0 then (some (-11 : Int32)) else if okI p0 4 then lt1 (gI mem 2 (ix p0)) fun (x3 : Int32) => jn ((some x3) : Option Int32) fun j4 => if p1 = 0 then (j4) else if x3 = p1 then (j4) else jn ((jn ((if p1 = (3 : Int32) then (if x3 = (6 : Int32) then (j4) else some (-12 : Int32)) else some (-12 : Int32)) : Option Int32) fun j6 => if p1 = (2 : Int32) then (if x3 = (5 : Int32) then (j4) else j6) else j6) : Option Int32) fun j5 => if p1 = (1 : Int32) then (if x3 = (4 : Int32) then (j4) else j5) else j5 else none
set_option maxRecDepth 100000 in
set_option maxHeartbeats 4000000 in
theorem c_X12_taken {l : Launch} {E : State → Prop} {D : va_G} {cy : Nat → ClassId} {ad : Nat → Nat} {L : List Nat} {mem : gMem} {p0 : Int32} {p1 : Int32} {rv : Int32} (hk : gOk ad L) (hL : ∀ o ∈ LM0, o ∈ L) (hE : gEok ad L E)  (h : f_X12_taken mem p0 p1 = some rv) : gMet l yX12_taken cX12_taken 4 (some .int) 2 44 E D cy shM ad L [.ref (ad 0), .int p0, .int p1] mem mem (some (.int rv)) := by
  refine g_go (own := RX12) (by decide +kernel) rfl hE (Nat.le_of_ble_eq_true rfl) ?_
  intro p e s m args below meth c R Q hargs hR hQ hEs hC hr hX H locs ls hH hl
  have hF := gF_of hk
  have hl : lv_has ls 4 [(0, .ref (ad 0)), (1, .int p0), (2, .int p1)] := hl
  refine lv_aload_n hC.x hC.b dX12_taken_0 rfl (lv_at hl 0 rfl) ?_
  refine lv_iload_n hC.x hC.b dX12_taken_1 rfl (lv_at hl 2 rfl) ?_
  refine lv_iconst (v := 0) hC.x hC.b dX12_taken_2 rfl ?_
  refine lv_bipush (v := 6) hC.x hC.b dX12_taken_3 rfl ?_
  obtain ⟨x1, hf1, h⟩ := bd_e h
  refine c_V1 (As := [.int p1, .int (0 : Int32), .int (6 : Int32)]) (rest := []) (o := 0) (q := (RX12, TX12, 74)) hC hX hE.2.1 hF hH (c_X12_in (l := l) hk hL hE hf1) kw167 kw168 kw169 kw5 kw170 a_X12_in.1 a_X12_in.2 (hL _ mM0) sM0 rfl rfl hl.1 (rmk hR (by decide) (by decide)) (Nat.le_of_ble_eq_true rfl) dX12_taken_5 (fun H locs hH => ?_)
  refine b_if_ne (tgt := 14) hC dX12_taken_8 (by decide) h (fun h => ?_) (fun h => ?_)
  · refine lv_aload_n hC.x hC.b dX12_taken_14 rfl (lv_at hl 0 rfl) ?_
    refine lv_iload_n hC.x hC.b dX12_taken_15 rfl (lv_at hl 1 rfl) ?_
    obtain ⟨x2, hf2, h⟩ := bd_e h
    refine c_V1 (As := [.int p0]) (rest := []) (o := 0) (q := (RX12, TX12, 74)) hC hX hE.2.1 hF hH (c_X12_isWalker (l := l) hk hL hE hf2) kw376 kw377 kw378 kw5 kw379 a_X12_isWalker.1 a_X12_isWalker.2 (hL _ mM0) sM0 rfl rfl hl.1 (rmk hR (by decide) (by decide)) (Nat.le_of_ble_eq_true rfl) dX12_taken_16 (fun H locs hH => ?_)
    refine b_if_ne (tgt := 25) hC dX12_taken_19 (by decide) h (fun h => ?_) (fun h => ?_)
    · refine lv_aload_n hC.x hC.b dX12_taken_25 rfl (lv_at hl 0 rfl) ?_
      refine r_getc (z := 2) hC hH fl_X12_33_12 (hL _ mM0) sM0 rfl dX12_taken_26 ?_
      refine lv_iload_n hC.x hC.b dX12_taken_29 rfl (lv_at hl 1 rfl) ?_
      refine r_iald hC hH (hL _ mM2) sM2 h dX12_taken_30 (fun h => ?_)
      refine n_i h (fun x3 h => ?_)
      refine lv_istore_n (lv' := [(3, .int x3), (0, .ref (ad 0)), (1, .int p0), (2, .int p1)]) hC.x hC.b dX12_taken_31 rfl hl (by decide) rfl (fun ls hl => ?_)
      refine lv_iload_n hC.x hC.b dX12_taken_32 rfl (lv_at hl 3 rfl) ?_
      obtain ⟨j4, ej4, h⟩ := jn_e h
      have hj4 : ∀  (H : Heap) (locs : List Loc) (ls : Array Slot), j4 = some rv → gH D cy shM ad L (gA ad L) s.heap mem H locs → lv_has ls 4 [(3, .int x3)] → W p l e R s m args below meth c H locs 0 0 Q (F0 m 72 ls []) := by
        intro H locs ls h hH hl
        have h := ap0 ej4 h
        refine lv_iload_n hC.x hC.b dX12_taken_72 rfl (lv_at hl 0 rfl) ?_
        refine lv_goto (tgt := 78) hC.x hC.b dX12_taken_73 (by decide) ?_
        rw [hQ]
        exact e_ir hC hr hH h dX12_taken_78
      clear ej4
      refine b_if_eq (tgt := 72) hC dX12_taken_33 (by decide) h (fun h => ?_) (fun h => ?_)
      · exact hj4  H locs ls h hH (lv_sub hl [0] rfl)
      · refine lv_iload_n hC.x hC.b dX12_taken_36 rfl (lv_at hl 0 rfl) ?_
        refine lv_iload_n hC.x hC.b dX12_taken_37 rfl (lv_at hl 3 rfl) ?_
        refine b_ic_eq (tgt := 72) hC dX12_taken_38 (by decide) h (fun h => ?_) (fun h => ?_)
        · exact hj4  H locs ls h hH (lv_sub hl [0] rfl)
        · refine lv_iload_n hC.x hC.b dX12_taken_41 rfl (lv_at hl 3 rfl) ?_
          refine lv_iconst (v := 1) hC.x hC.b dX12_taken_42 rfl ?_
          obtain ⟨j5, ej5, h⟩ := jn_e h
          have hj5 : ∀  (H : Heap) (locs : List Loc) (ls : Array Slot), j5 = some rv → gH D cy shM ad L (gA ad L) s.heap mem H locs → lv_has ls 4 [(2, .int p1), (3, .int x3)] → W p l e R s m args below meth c H locs 0 0 Q (F0 m 51 ls []) := by
            intro H locs ls h hH hl
            have h := ap0 ej5 h
            refine lv_iload_n hC.x hC.b dX12_taken_51 rfl (lv_at hl 0 rfl) ?_
            refine lv_iconst (v := 2) hC.x hC.b dX12_taken_52 rfl ?_
            obtain ⟨j6, ej6, h⟩ := jn_e h
            have hj6 : ∀  (H : Heap) (locs : List Loc) (ls : Array Slot), j6 = some rv → gH D cy shM ad L (gA ad L) s.heap mem H locs → lv_has ls 4 [(2, .int p1), (3, .int x3)] → W p l e R s m args below meth c H locs 0 0 Q (F0 m 61 ls []) := by
              intro H locs ls h hH hl
              have h := ap0 ej6 h
              refine lv_iload_n hC.x hC.b dX12_taken_61 rfl (lv_at hl 0 rfl) ?_
              refine lv_iconst (v := 3) hC.x hC.b dX12_taken_62 rfl ?_
              refine b_ic_ne (tgt := 76) hC dX12_taken_63 (by decide) h (fun h => ?_) (fun h => ?_)
              · refine lv_bipush (v := -12) hC.x hC.b dX12_taken_76 rfl ?_
                rw [hQ]
                exact e_ir hC hr hH h dX12_taken_78
              · refine lv_iload_n hC.x hC.b dX12_taken_66 rfl (lv_at hl 1 rfl) ?_
                refine lv_bipush (v := 6) hC.x hC.b dX12_taken_67 rfl ?_
                refine b_ic_ne (tgt := 76) hC dX12_taken_69 (by decide) h (fun h => ?_) (fun h => ?_)
                · refine lv_bipush (v := -12) hC.x hC.b dX12_taken_76 rfl ?_
                  rw [hQ]
                  exact e_ir hC hr hH h dX12_taken_78
                · exact hj4  H locs ls h hH (lv_sub hl [1] rfl)
            clear ej6
            refine b_ic_ne (tgt := 61) hC dX12_taken_53 (by decide) h (fun h => ?_) (fun h => ?_)
            · exact hj6  H locs ls h hH (lv_sub hl [0, 1] rfl)
            · refine lv_iload_n hC.x hC.b dX12_taken_56 rfl (lv_at hl 1 rfl) ?_
              refine lv_iconst (v := 5) hC.x hC.b dX12_taken_57 rfl ?_
              refine b_ic_eq (tgt := 72) hC dX12_taken_58 (by decide) h (fun h => ?_) (fun h => ?_)
              · exact hj4  H locs ls h hH (lv_sub hl [1] rfl)
              · exact hj6  H locs ls h hH (lv_sub hl [0, 1] rfl)
          clear ej5
          refine b_ic_ne (tgt := 51) hC dX12_taken_43 (by decide) h (fun h => ?_) (fun h => ?_)
          · exact hj5  H locs ls h hH (lv_sub hl [3, 0] rfl)
          · refine lv_iload_n hC.x hC.b dX12_taken_46 rfl (lv_at hl 0 rfl) ?_
            refine lv_iconst (v := 4) hC.x hC.b dX12_taken_47 rfl ?_
            refine b_ic_eq (tgt := 72) hC dX12_taken_48 (by decide) h (fun h => ?_) (fun h => ?_)
            · exact hj4  H locs ls h hH (lv_sub hl [0] rfl)
            · exact hj5  H locs ls h hH (lv_sub hl [3, 0] rfl)
    · refine lv_bipush (v := -11) hC.x hC.b dX12_taken_22 rfl ?_
      rw [hQ]
      exact e_ir hC hr hH h dX12_taken_24
  · refine lv_bipush (v := -2) hC.x hC.b dX12_taken_11 rfl ?_
    rw [hQ]
    exact e_ir hC hr hH h dX12_taken_13
def s_X12_tape_69 (p0 : Int32) (self9 : Int32 → gMem → Option (Int32 × gMem)) (x10 : Int32) (m11 : gMem) : Option (Int32 × gMem) := if (60 : Int32) ≤ x10 then (some ((1 : Int32), m11)) else if okI (((60 : Int32) * p0) + x10) 360 then lt1 (gsJ m11 38 (ix (((60 : Int32) * p0) + x10)) (0 : Int64)) fun (m12 : gMem) => lt1 (x10 + (1 : Int32)) fun (x13 : Int32) => (self9 x13 m12) else none
def f_X12_tape (mem : gMem) (p0 : Int32) (p1 : Int32) (p2 : Int32) : Option (Int32 × gMem) := bd (f_X12_isTape p0) fun (x1 : Int32) => if x1 = 0 then (some ((-1 : Int32), mem)) else bd (f_X12_in p1 (-1 : Int32) (4 : Int32)) fun (x2 : Int32) => if x2 = 0 then (some ((-2 : Int32), mem)) else jn ((jn ((if okI p0 6 then lt1 (gsI mem 36 (ix p0) p1) fun (m5 : gMem) => jn ((fun (x7 : Int32) => if okI p0 6 then lt1 (gsI m5 37 (ix p0) x7) fun (m8 : gMem) => lq2 (s_X12_tape_69 p0) 1000 (0 : Int32) m8 else none) : Int32 → Option (Int32 × gMem)) fun j6 => if 0 ≤ p1 then ((j6 p2)) else (j6 (0 : Int32)) else none) : Option (Int32 × gMem)) fun j4 => if p1 < 0 then (j4) else if 0 ≤ p2 then (j4) else some ((-14 : Int32), mem)) : Option (Int32 × gMem)) fun j3 => if p1 < 0 then (j3) else if p2 ≤ (60 : Int32) then (j3) else some ((-2 : Int32), mem)
set_option maxRecDepth 100000 in
set_option maxHeartbeats 4000000 in
theorem c_X12_tape {l : Launch} {E : State → Prop} {D : va_G} {cy : Nat → ClassId} {ad : Nat → Nat} {L : List Nat} {mem : gMem} {p0 : Int32} {p1 : Int32} {p2 : Int32} {rv : Int32} {memz : gMem} (hk : gOk ad L) (hL : ∀ o ∈ LM0, o ∈ L) (hE : gEok ad L E)  (h : f_X12_tape mem p0 p1 p2 = some (rv, memz)) : gMet l yX12_tape cX12_tape 5 (some .int) 2 44 E D cy shM ad L [.ref (ad 0), .int p0, .int p1, .int p2] mem memz (some (.int rv)) := by
  refine g_go (own := RX12) (by decide +kernel) rfl hE (Nat.le_of_ble_eq_true rfl) ?_
  intro p e s m args below meth c R Q hargs hR hQ hEs hC hr hX H locs ls hH hl
  have hF := gF_of hk
  have hl : lv_has ls 5 [(0, .ref (ad 0)), (1, .int p0), (2, .int p1), (3, .int p2)] := hl
  refine lv_aload_n hC.x hC.b dX12_tape_0 rfl (lv_at hl 0 rfl) ?_
  refine lv_iload_n hC.x hC.b dX12_tape_1 rfl (lv_at hl 1 rfl) ?_
  obtain ⟨x1, hf1, h⟩ := bd_e h
  refine c_V1 (As := [.int p0]) (rest := []) (o := 0) (q := (RX12, TX12, 74)) hC hX hE.2.1 hF hH (c_X12_isTape (l := l) hk hL hE hf1) kw1053 kw1054 kw1055 kw5 kw1056 a_X12_isTape.1 a_X12_isTape.2 (hL _ mM0) sM0 rfl rfl hl.1 (rmk hR (by decide) (by decide)) (Nat.le_of_ble_eq_true rfl) dX12_tape_2 (fun H locs hH => ?_)
  refine b_if_ne (tgt := 10) hC dX12_tape_5 (by decide) h (fun h => ?_) (fun h => ?_)
  · refine lv_aload_n hC.x hC.b dX12_tape_10 rfl (lv_at hl 0 rfl) ?_
    refine lv_iload_n hC.x hC.b dX12_tape_11 rfl (lv_at hl 2 rfl) ?_
    refine lv_iconst (v := -1) hC.x hC.b dX12_tape_12 rfl ?_
    refine lv_iconst (v := 4) hC.x hC.b dX12_tape_13 rfl ?_
    obtain ⟨x2, hf2, h⟩ := bd_e h
    refine c_V1 (As := [.int p1, .int (-1 : Int32), .int (4 : Int32)]) (rest := []) (o := 0) (q := (RX12, TX12, 74)) hC hX hE.2.1 hF hH (c_X12_in (l := l) hk hL hE hf2) kw167 kw168 kw169 kw5 kw170 a_X12_in.1 a_X12_in.2 (hL _ mM0) sM0 rfl rfl hl.1 (rmk hR (by decide) (by decide)) (Nat.le_of_ble_eq_true rfl) dX12_tape_14 (fun H locs hH => ?_)
    refine b_if_eq (tgt := 30) hC dX12_tape_17 (by decide) h (fun h => ?_) (fun h => ?_)
    · refine lv_bipush (v := -2) hC.x hC.b dX12_tape_30 rfl ?_
      rw [hQ]
      exact e_i hC hr hH h dX12_tape_32
    · refine lv_iload_n hC.x hC.b dX12_tape_20 rfl (lv_at hl 2 rfl) ?_
      obtain ⟨j3, ej3, h⟩ := jn_e h
      have hj3 : ∀  (H : Heap) (locs : List Loc) (ls : Array Slot), j3 = some (rv, memz) → gH D cy shM ad L (gA ad L) s.heap mem H locs → lv_has ls 5 [(0, .ref (ad 0)), (1, .int p0), (2, .int p1), (3, .int p2)] → W p l e R s m args below meth c H locs 0 0 Q (F0 m 33 ls []) := by
        intro H locs ls h hH hl
        have h := ap0 ej3 h
        refine lv_iload_n hC.x hC.b dX12_tape_33 rfl (lv_at hl 2 rfl) ?_
        obtain ⟨j4, ej4, h⟩ := jn_e h
        have hj4 : ∀  (H : Heap) (locs : List Loc) (ls : Array Slot), j4 = some (rv, memz) → gH D cy shM ad L (gA ad L) s.heap mem H locs → lv_has ls 5 [(0, .ref (ad 0)), (1, .int p0), (2, .int p1), (3, .int p2)] → W p l e R s m args below meth c H locs 0 0 Q (F0 m 44 ls []) := by
          intro H locs ls h hH hl
          have h := ap0 ej4 h
          refine lv_aload_n hC.x hC.b dX12_tape_44 rfl (lv_at hl 0 rfl) ?_
          refine r_getc (z := 36) hC hH fl_X12_223_12 (hL _ mM0) sM0 rfl dX12_tape_45 ?_
          refine lv_iload_n hC.x hC.b dX12_tape_48 rfl (lv_at hl 1 rfl) ?_
          refine lv_iload_n hC.x hC.b dX12_tape_49 rfl (lv_at hl 2 rfl) ?_
          refine r_iast hC hF hH (hL _ mM36) sM36 h dX12_tape_50 (fun m5 H locs h hH => ?_)
          refine lv_aload_n hC.x hC.b dX12_tape_51 rfl (lv_at hl 0 rfl) ?_
          refine r_getc (z := 37) hC hH fl_X12_226_12 (hL _ mM0) sM0 rfl dX12_tape_52 ?_
          refine lv_iload_n hC.x hC.b dX12_tape_55 rfl (lv_at hl 1 rfl) ?_
          refine lv_iload_n hC.x hC.b dX12_tape_56 rfl (lv_at hl 2 rfl) ?_
          obtain ⟨j6, ej6, h⟩ := jn_e h
          have hj6 : ∀ (x7 : Int32) (H : Heap) (locs : List Loc) (ls : Array Slot), (j6 x7) = some (rv, memz) → gH D cy shM ad L (gA ad L) s.heap m5 H locs → lv_has ls 5 [(0, .ref (ad 0)), (1, .int p0)] → W p l e R s m args below meth c H locs 0 0 Q (F0 m 65 ls [.int x7, .int p0, .ref (ad 37)]) := by
            intro x7 H locs ls h hH hl
            have h := ap1 ej6 h
            refine r_iast hC hF hH (hL _ mM37) sM37 h dX12_tape_65 (fun m8 H locs h hH => ?_)
            refine lv_iconst (v := 0) hC.x hC.b dX12_tape_66 rfl ?_
            refine lv_istore (lv' := [(4, .int (0 : Int32)), (0, .ref (ad 0)), (1, .int p0)]) hC.x hC.b dX12_tape_67 hl (by decide) rfl (fun ls hl => ?_)
            have hl9 : ∀ (n : Nat) (x10 : Int32) (m11 : gMem) (H : Heap) (locs : List Loc) (ls : Array Slot), lq2 (s_X12_tape_69 p0) n x10 m11 = some (rv, memz) → gH D cy shM ad L (gA ad L) s.heap m11 H locs → lv_has ls 5 [(0, .ref (ad 0)), (1, .int p0), (4, .int x10)] → W p l e R s m args below meth c H locs 0 0 Q (F0 m 69 ls []) := by
              intro n
              induction n with
              | zero => intro x10 m11 H locs ls h _ _; exact lq2_0 h
              | succ n ih9 =>
                intro x10 m11 H locs ls h hH hl
                obtain ⟨self9, es9, h⟩ := lq2_s h
                refine lv_iload hC.x hC.b dX12_tape_69 (lv_at hl 2 rfl) ?_
                refine lv_bipush (v := 60) hC.x hC.b dX12_tape_71 rfl ?_
                refine b_ic_ge (tgt := 95) hC dX12_tape_73 (by decide) h (fun h => ?_) (fun h => ?_)
                · refine lv_iconst (v := 1) hC.x hC.b dX12_tape_95 rfl ?_
                  rw [hQ]
                  exact e_i hC hr hH h dX12_tape_96
                · refine lv_aload_n hC.x hC.b dX12_tape_76 rfl (lv_at hl 0 rfl) ?_
                  refine r_getc (z := 38) hC hH fl_X12_229_12 (hL _ mM0) sM0 rfl dX12_tape_77 ?_
                  refine lv_bipush (v := 60) hC.x hC.b dX12_tape_80 rfl ?_
                  refine lv_iload_n hC.x hC.b dX12_tape_82 rfl (lv_at hl 1 rfl) ?_
                  refine lv_imul hC.x hC.b dX12_tape_83 ?_
                  refine lv_iload hC.x hC.b dX12_tape_84 (lv_at hl 2 rfl) ?_
                  refine lv_iadd hC.x hC.b dX12_tape_86 ?_
                  refine lv_lconst (v := 0) hC.x hC.b dX12_tape_87 rfl ?_
                  refine r_last hC hF hH (hL _ mM38) sM38 h dX12_tape_88 (fun m12 H locs h hH => ?_)
                  refine i_inc (lv' := fun x13 => [(4, .int x13), (0, .ref (ad 0)), (1, .int p0)]) hC dX12_tape_89 hl (k := 2) rfl (by decide) (fun _ => rfl) (z := 1) rfl h (fun x13 ls h hl => ?_)
                  refine lv_goto (tgt := 69) hC.x hC.b dX12_tape_92 (by decide) ?_
                  exact ih9 x13 m12 H locs ls (ap2 es9 h) hH (lv_sub hl [1, 2, 0] rfl)
            exact hl9 _ (0 : Int32) m8 H locs ls h hH (lv_sub hl [1, 2, 0] rfl)
          clear ej6
          refine b_if_ge (tgt := 64) hC dX12_tape_57 (by decide) h (fun h => ?_) (fun h => ?_)
          · refine lv_iload_n hC.x hC.b dX12_tape_64 rfl (lv_at hl 3 rfl) ?_
            exact hj6 p2 H locs ls h hH (lv_sub hl [0, 1] rfl)
          · refine lv_iconst (v := 0) hC.x hC.b dX12_tape_60 rfl ?_
            refine lv_goto (tgt := 65) hC.x hC.b dX12_tape_61 (by decide) ?_
            exact hj6 (0 : Int32) H locs ls h hH (lv_sub hl [0, 1] rfl)
        clear ej4
        refine b_if_lt (tgt := 44) hC dX12_tape_34 (by decide) h (fun h => ?_) (fun h => ?_)
        · exact hj4  H locs ls h hH (lv_sub hl [0, 1, 2, 3] rfl)
        · refine lv_iload_n hC.x hC.b dX12_tape_37 rfl (lv_at hl 3 rfl) ?_
          refine b_if_ge (tgt := 44) hC dX12_tape_38 (by decide) h (fun h => ?_) (fun h => ?_)
          · exact hj4  H locs ls h hH (lv_sub hl [0, 1, 2, 3] rfl)
          · refine lv_bipush (v := -14) hC.x hC.b dX12_tape_41 rfl ?_
            rw [hQ]
            exact e_i hC hr hH h dX12_tape_43
      clear ej3
      refine b_if_lt (tgt := 33) hC dX12_tape_21 (by decide) h (fun h => ?_) (fun h => ?_)
      · exact hj3  H locs ls h hH (lv_sub hl [0, 1, 2, 3] rfl)
      · refine lv_iload_n hC.x hC.b dX12_tape_24 rfl (lv_at hl 3 rfl) ?_
        refine lv_bipush (v := 60) hC.x hC.b dX12_tape_25 rfl ?_
        refine b_ic_le (tgt := 33) hC dX12_tape_27 (by decide) h (fun h => ?_) (fun h => ?_)
        · exact hj3  H locs ls h hH (lv_sub hl [0, 1, 2, 3] rfl)
        · refine lv_bipush (v := -2) hC.x hC.b dX12_tape_30 rfl ?_
          rw [hQ]
          exact e_i hC hr hH h dX12_tape_32
  · refine lv_iconst (v := -1) hC.x hC.b dX12_tape_8 rfl ?_
    rw [hQ]
    exact e_i hC hr hH h dX12_tape_9

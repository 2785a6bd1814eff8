theorem a_X11_isTape : noMH yX11_isTape.cls ∧ arity yX11_isTape.desc 1 := by decide +kernel
theorem fl_X11_47_11 : gFl RX11 47 11 9 := ⟨RX11, TX11, 13, "OnTiptoe", rfl, inW11, by decide, kw31, Or.inl rfl⟩
theorem fl_X11_56_11 : gFl RX11 56 11 11 := ⟨RX11, TX11, 13, "OnTiptoe", rfl, inW11, by decide, kw35, Or.inl rfl⟩
def s_X11_judge_71 (p1 : Int32) (x4 : Int32) (p0 : Int32) (mem : gMem) (self5 : Int32 → Option Int32) (x6 : Int32) : Option Int32 := if (12 : Int32) ≤ x6 then (some (-5 : Int32)) else lt1 (p1 + x6) fun (x7 : Int32) => if x7 < x4 then (if okI p0 6 then oc (gR mem 5 (ix p0)) none fun t8 => if isT t8 then if okI x7 60 then if okI x6 12 then if (lg_cmp (gJ mem t8 (ix x7)) ((gI mem 11 (ix x6)).toInt64)) = 0 then (lt1 (x6 + (1 : Int32)) fun (x9 : Int32) => (self5 x9)) else some x6 else none else none else none else none) else some ((100 : Int32) + x6)
def f_X11_judge (L : List Nat) (mem : gMem) (p0 : Int32) (p1 : Int32) : Option Int32 := bd (f_X11_isTape p0) fun (x1 : Int32) => if x1 = 0 then (some (-1 : Int32)) else if okI p0 6 then jn ((if okI p0 6 then jn ((fun (x4 : Int32) => if p1 < 0 then (some (100 : Int32)) else if p1 < x4 then (lq1 (s_X11_judge_71 p1 x4 p0 mem) 1000 (0 : Int32)) else some (100 : Int32)) : Int32 → Option Int32) fun j3 => if (gI mem 3 (ix p0)) = 0 then (if okI p0 6 then (j3 (if (60 : Int32) < (gI mem 4 (ix p0)) then (60 : Int32) else (gI mem 4 (ix p0)))) else none) else (j3 (0 : Int32)) else none) : Option Int32) fun j2 => if (gI mem 3 (ix p0)) = (-1 : Int32) then (j2) else if okI p0 6 then if (gI mem 3 (ix p0)) = 0 then (j2) else some (-12 : Int32) else none else none
set_option maxRecDepth 100000 in
set_option maxHeartbeats 4000000 in
theorem c_X11_judge {l : Launch} {E : State → Prop} {D : va_G} {cy : Nat → ClassId} {ad : Nat → Nat} {L : List Nat} {mem : gMem} {p0 : Int32} {p1 : Int32} {rv : Int32} (hk : gOk ad L) (hL : ∀ o ∈ LX0, o ∈ L) (hE : gEok ad L E)  (h : f_X11_judge L mem p0 p1 = some rv) : gMet l yX11_judge cX11_judge 6 (some .int) 1 21 E D cy shX ad L [.ref (ad 0), .int p0, .int p1] mem mem (some (.int rv)) := by
  refine g_go (own := RX11) (by decide +kernel) rfl hE (Nat.le_of_ble_eq_true rfl) ?_
  intro p e s m args below meth c R Q hargs hR hQ hEs hC hr hX H locs ls hH hl
  have hF := gF_of hk
  have hl : lv_has ls 6 [(0, .ref (ad 0)), (1, .int p0), (2, .int p1)] := hl
  refine lv_iload_n hC.x hC.b dX11_judge_0 rfl (lv_at hl 1 rfl) ?_
  obtain ⟨x1, hf1, h⟩ := bd_e h
  refine c_S1 (As := [.int p0]) (rest := []) hC hX hE.2.1 hF hH (c_X11_isTape (l := l) hk hL hE hf1) kw1046 kw1047 kw2 kw1048 a_X11_isTape.1 a_X11_isTape.2 rfl hl.1 (rmk hR (by decide) (by decide)) (Nat.le_of_ble_eq_true rfl) dX11_judge_1 (fun H locs hH => ?_)
  refine b_if_ne (tgt := 9) hC dX11_judge_4 (by decide) h (fun h => ?_) (fun h => ?_)
  · refine lv_aload_n hC.x hC.b dX11_judge_9 rfl (lv_at hl 0 rfl) ?_
    refine r_getc (z := 3) hC hH fl_X11_47_11 (hL _ mX0) sX0 rfl dX11_judge_10 ?_
    refine lv_iload_n hC.x hC.b dX11_judge_13 rfl (lv_at hl 1 rfl) ?_
    refine r_iald hC hH (hL _ mX3) sX3 h dX11_judge_14 (fun h => ?_)
    refine lv_iconst (v := -1) hC.x hC.b dX11_judge_15 rfl ?_
    obtain ⟨j2, ej2, h⟩ := jn_e h
    have hj2 : ∀  (H : Heap) (locs : List Loc) (ls : Array Slot), j2 = some rv → gH D cy shX ad L (gA ad L) s.heap mem H locs → lv_has ls 6 [(0, .ref (ad 0)), (1, .int p0), (2, .int p1)] → W p l e R s m args below meth c H locs 0 0 Q (F0 m 31 ls []) := by
      intro H locs ls h hH hl
      have h := ap0 ej2 h
      refine lv_aload_n hC.x hC.b dX11_judge_31 rfl (lv_at hl 0 rfl) ?_
      refine r_getc (z := 3) hC hH fl_X11_47_11 (hL _ mX0) sX0 rfl dX11_judge_32 ?_
      refine lv_iload_n hC.x hC.b dX11_judge_35 rfl (lv_at hl 1 rfl) ?_
      refine r_iald hC hH (hL _ mX3) sX3 h dX11_judge_36 (fun h => ?_)
      obtain ⟨j3, ej3, h⟩ := jn_e h
      have hj3 : ∀ (x4 : Int32) (H : Heap) (locs : List Loc) (ls : Array Slot), (j3 x4) = some rv → gH D cy shX ad L (gA ad L) s.heap mem H locs → lv_has ls 6 [(0, .ref (ad 0)), (1, .int p0), (2, .int p1)] → W p l e R s m args below meth c H locs 0 0 Q (F0 m 55 ls [.int x4]) := by
        intro x4 H locs ls h hH hl
        have h := ap1 ej3 h
        refine lv_istore_n (lv' := [(3, .int x4), (0, .ref (ad 0)), (1, .int p0), (2, .int p1)]) hC.x hC.b dX11_judge_55 rfl hl (by decide) rfl (fun ls hl => ?_)
        refine lv_iload_n hC.x hC.b dX11_judge_56 rfl (lv_at hl 3 rfl) ?_
        refine b_if_lt (tgt := 65) hC dX11_judge_57 (by decide) h (fun h => ?_) (fun h => ?_)
        · refine lv_bipush (v := 100) hC.x hC.b dX11_judge_65 rfl ?_
          rw [hQ]
          exact e_ir hC hr hH h dX11_judge_67
        · refine lv_iload_n hC.x hC.b dX11_judge_60 rfl (lv_at hl 3 rfl) ?_
          refine lv_iload_n hC.x hC.b dX11_judge_61 rfl (lv_at hl 0 rfl) ?_
          refine b_ic_lt (tgt := 68) hC dX11_judge_62 (by decide) h (fun h => ?_) (fun h => ?_)
          · refine lv_iconst (v := 0) hC.x hC.b dX11_judge_68 rfl ?_
            refine lv_istore (lv' := [(4, .int (0 : Int32)), (3, .int x4), (0, .ref (ad 0)), (1, .int p0), (2, .int p1)]) hC.x hC.b dX11_judge_69 hl (by decide) rfl (fun ls hl => ?_)
            have hl5 : ∀ (n : Nat) (x6 : Int32) (H : Heap) (locs : List Loc) (ls : Array Slot), lq1 (s_X11_judge_71 p1 x4 p0 mem) n x6 = some rv → gH D cy shX ad L (gA ad L) s.heap mem H locs → lv_has ls 6 [(0, .ref (ad 0)), (1, .int p0), (2, .int p1), (3, .int x4), (4, .int x6)] → W p l e R s m args below meth c H locs 0 0 Q (F0 m 71 ls []) := by
              intro n
              induction n with
              | zero => intro x6 H locs ls h _ _; exact lq1_0 h
              | succ n ih5 =>
                intro x6 H locs ls h hH hl
                obtain ⟨self5, es5, h⟩ := lq1_s h
                refine lv_iload hC.x hC.b dX11_judge_71 (lv_at hl 4 rfl) ?_
                refine lv_bipush (v := 12) hC.x hC.b dX11_judge_73 rfl ?_
                refine b_ic_ge (tgt := 129) hC dX11_judge_75 (by decide) h (fun h => ?_) (fun h => ?_)
                · refine lv_bipush (v := -5) hC.x hC.b dX11_judge_129 rfl ?_
                  rw [hQ]
                  exact e_ir hC hr hH h dX11_judge_131
                · refine lv_iload_n hC.x hC.b dX11_judge_78 rfl (lv_at hl 2 rfl) ?_
                  refine lv_iload hC.x hC.b dX11_judge_79 (lv_at hl 4 rfl) ?_
                  refine lv_iadd hC.x hC.b dX11_judge_81 ?_
                  refine n_i h (fun x7 h => ?_)
                  refine lv_istore (lv' := [(5, .int x7), (0, .ref (ad 0)), (1, .int p0), (2, .int p1), (3, .int x4), (4, .int x6)]) hC.x hC.b dX11_judge_82 hl (by decide) rfl (fun ls hl => ?_)
                  refine lv_iload hC.x hC.b dX11_judge_84 (lv_at hl 0 rfl) ?_
                  refine lv_iload_n hC.x hC.b dX11_judge_86 rfl (lv_at hl 4 rfl) ?_
                  refine b_ic_lt (tgt := 96) hC dX11_judge_87 (by decide) h (fun h => ?_) (fun h => ?_)
                  · refine lv_aload_n hC.x hC.b dX11_judge_96 rfl (lv_at hl 1 rfl) ?_
                    refine r_getc (z := 5) hC hH fl_X11_56_11 (hL _ mX0) sX0 rfl dX11_judge_97 ?_
                    refine lv_iload_n hC.x hC.b dX11_judge_100 rfl (lv_at hl 2 rfl) ?_
                    refine r_aald (t := 2) hC hH (hL _ mX5) sX5 rfl rfl h dX11_judge_101 (fun h => ?_)
                    refine d_top h (fun t8 hyt8 h => ?_)
                    obtain ⟨hTt8, h⟩ := chk h
                    refine lv_iload hC.x hC.b dX11_judge_102 (lv_at hl 0 rfl) ?_
                    refine r_lald hC hH (hL _ (mT hTt8)) (sT0 hTt8) h dX11_judge_104 (fun h => ?_)
                    refine lv_aload_n hC.x hC.b dX11_judge_105 rfl (lv_at hl 1 rfl) ?_
                    refine r_getc (z := 10) hC hH fl_X11_12_11 (hL _ mX0) sX0 rfl dX11_judge_106 ?_
                    refine r_getc (z := 11) hC hH fl_X11_68_2 (hL _ mX10) sX10 rfl dX11_judge_109 ?_
                    refine lv_iload hC.x hC.b dX11_judge_112 (lv_at hl 5 rfl) ?_
                    refine r_iald hC hH (hL _ mX11) sX11 h dX11_judge_114 (fun h => ?_)
                    refine lv_i2l hC.x hC.b dX11_judge_115 rfl ?_
                    refine W.lcmp hC.x hC.b dX11_judge_116 ?_
                    refine b_if_eq (tgt := 123) hC dX11_judge_117 (by decide) h (fun h => ?_) (fun h => ?_)
                    · refine i_inc (lv' := fun x9 => [(4, .int x9), (5, .int x7), (0, .ref (ad 0)), (1, .int p0), (2, .int p1), (3, .int x4)]) hC dX11_judge_123 hl (k := 5) rfl (by decide) (fun _ => rfl) (z := 1) rfl h (fun x9 ls h hl => ?_)
                      refine lv_goto (tgt := 71) hC.x hC.b dX11_judge_126 (by decide) ?_
                      exact ih5 x9 H locs ls (ap1 es5 h) hH (lv_sub hl [2, 3, 4, 5, 0] rfl)
                    · refine lv_iload hC.x hC.b dX11_judge_120 (lv_at hl 5 rfl) ?_
                      rw [hQ]
                      exact e_ir hC hr hH h dX11_judge_122
                  · refine lv_bipush (v := 100) hC.x hC.b dX11_judge_90 rfl ?_
                    refine lv_iload hC.x hC.b dX11_judge_92 (lv_at hl 5 rfl) ?_
                    refine lv_iadd hC.x hC.b dX11_judge_94 ?_
                    rw [hQ]
                    exact e_ir hC hr hH h dX11_judge_95
            exact hl5 _ (0 : Int32) H locs ls h hH (lv_sub hl [2, 3, 4, 1, 0] rfl)
          · refine lv_bipush (v := 100) hC.x hC.b dX11_judge_65 rfl ?_
            rw [hQ]
            exact e_ir hC hr hH h dX11_judge_67
      clear ej3
      refine b_if_ne (tgt := 54) hC dX11_judge_37 (by decide) h (fun h => ?_) (fun h => ?_)
      · refine lv_iconst (v := 0) hC.x hC.b dX11_judge_54 rfl ?_
        exact hj3 (0 : Int32) H locs ls h hH (lv_sub hl [0, 1, 2] rfl)
      · refine lv_aload_n hC.x hC.b dX11_judge_40 rfl (lv_at hl 0 rfl) ?_
        refine r_getc (z := 4) hC hH fl_X11_51_11 (hL _ mX0) sX0 rfl dX11_judge_41 ?_
        refine lv_iload_n hC.x hC.b dX11_judge_44 rfl (lv_at hl 1 rfl) ?_
        refine r_iald hC hH (hL _ mX4) sX4 h dX11_judge_45 (fun h => ?_)
        refine lv_bipush (v := 60) hC.x hC.b dX11_judge_46 rfl ?_
        refine m_min hC hl.1 kw1045 kw579 kw310 kw580 (rmM hR (by decide) (Nat.le_of_ble_eq_true rfl)) dX11_judge_48 ?_
        refine lv_goto (tgt := 55) hC.x hC.b dX11_judge_51 (by decide) ?_
        exact hj3 (if (60 : Int32) < (gI mem 4 (ix p0)) then (60 : Int32) else (gI mem 4 (ix p0))) H locs ls h hH (lv_sub hl [0, 1, 2] rfl)
    clear ej2
    refine b_ic_eq (tgt := 31) hC dX11_judge_16 (by decide) h (fun h => ?_) (fun h => ?_)
    · exact hj2  H locs ls h hH (lv_sub hl [0, 1, 2] rfl)
    · refine lv_aload_n hC.x hC.b dX11_judge_19 rfl (lv_at hl 0 rfl) ?_
      refine r_getc (z := 3) hC hH fl_X11_47_11 (hL _ mX0) sX0 rfl dX11_judge_20 ?_
      refine lv_iload_n hC.x hC.b dX11_judge_23 rfl (lv_at hl 1 rfl) ?_
      refine r_iald hC hH (hL _ mX3) sX3 h dX11_judge_24 (fun h => ?_)
      refine b_if_eq (tgt := 31) hC dX11_judge_25 (by decide) h (fun h => ?_) (fun h => ?_)
      · exact hj2  H locs ls h hH (lv_sub hl [0, 1, 2] rfl)
      · refine lv_bipush (v := -12) hC.x hC.b dX11_judge_28 rfl ?_
        rw [hQ]
        exact e_ir hC hr hH h dX11_judge_30
  · refine lv_iconst (v := -1) hC.x hC.b dX11_judge_7 rfl ?_
    rw [hQ]
    exact e_ir hC hr hH h dX11_judge_8
theorem a_X11_isOfKind : noMH yX11_isOfKind.cls ∧ arity yX11_isOfKind.desc 2 := by decide +kernel
def d_kind (L : List Nat) (mem : gMem) (w : Nat) : Option Int32 := if wkd w = 0 then f_X9_kind L w  else if wkd w = 1 then f_X1_kind L w  else if wkd w = 2 then f_X6_kind L w  else if wkd w = 3 then f_X5_kind L w  else if wkd w = 4 then f_X7_kind L w  else if wkd w = 5 then f_X0_kind L w  else f_X8_kind L w 
theorem a_X9_kind : noMH yX9_kind.cls ∧ arity yX9_kind.desc 0 := by decide +kernel
theorem a_X1_kind : noMH yX1_kind.cls ∧ arity yX1_kind.desc 0 := by decide +kernel
theorem a_X6_kind : noMH yX6_kind.cls ∧ arity yX6_kind.desc 0 := by decide +kernel
theorem a_X5_kind : noMH yX5_kind.cls ∧ arity yX5_kind.desc 0 := by decide +kernel
theorem a_X7_kind : noMH yX7_kind.cls ∧ arity yX7_kind.desc 0 := by decide +kernel
theorem a_X0_kind : noMH yX0_kind.cls ∧ arity yX0_kind.desc 0 := by decide +kernel
theorem a_X8_kind : noMH yX8_kind.cls ∧ arity yX8_kind.desc 0 := by decide +kernel
theorem v_X11_93_kind {p : Program} {l : Launch} {e : Env} {R : Room} {s : State} {m : MethodId} {args : Array Value} {below : List Frame} {meth : Method} {c : Code} {H : Heap} {locs : List Loc} {Q : State → Prop} {cc : ByteArray} {nL : Nat} {pc : Nat} {ls : Array Slot} {rest : List Value} {D : va_G} {cy : Nat → ClassId} {ad : Nat → Nat} {L : List Nat} {mem : gMem} {E : State → Prop} {fr0 lo0 w : Nat} {rv : Int32} (hC : gC p s m args meth c cc nL RX11 D cy) (hX : gX (gA ad L) s E) (hk : gOk ad L) (hL : ∀ o ∈ LX0, o ∈ L) (hE : gEok ad L E) (hF : gF ad L (gA ad L)) (hH : gH D cy shX ad L (gA ad L) s.heap mem H locs) (hw : wok L w) (hf : d_kind L mem w  = some rv) (hls : ls.size = nL) (hR : R = gRm fr0 lo0) (h1 : 1 ≤ fr0) (h2 : 20 ≤ lo0) (hW : (rest.map fun v => v.category).sum ≤ 8) (hdg : decode cc pc = .ok (.invokevirtual 93, 3))
    (kk : ∀ (H1 : Heap) (locs1 : List Loc), gH D cy shX ad L (gA ad L) s.heap mem H1 locs1 → W p l e R s m args below meth c H1 locs1 0 0 Q (F0 m (pc + 3) ls (.int rv :: rest))) : W p l e R s m args below meth c H locs 0 0 Q (F0 m pc ls (.ref (ad w) :: rest)) := by
  have hk7 := hw.2.2.1
  unfold d_kind at hf
  by_cases hc : wkd w = 0
  · have hf := ifp hc hf
    exact c_U1 (As := []) (rest := rest) (o := w) (x := ⟨"OnTiptoe$Walker", "kind", "()I"⟩) (owner := "OnTiptoe$Walker") (b0 := cX9_kind) (m0 := 1) (r0 := (some .int)) (q := (RX9, TX9, 6)) hC hX hE.2.1 hF hH (c_X9_kind (l := l) (mem := mem) hk hL hE hw hf) kw271 kw272 kw295 kw221 kw277 kw273 kw273 kw277 (by decide +kernel) a_X9_kind.2 hw.2.2.2.1 (sWk hw hc) rfl rfl hls (rmk hR (by omega) (by omega)) hW hdg kk
  have hf := ifn hc hf
  have hz0 := hc
  clear hc
  by_cases hc : wkd w = 1
  · have hf := ifp hc hf
    exact c_U1 (As := []) (rest := rest) (o := w) (x := ⟨"OnTiptoe$Walker", "kind", "()I"⟩) (owner := "OnTiptoe$Walker") (b0 := cX9_kind) (m0 := 1) (r0 := (some .int)) (q := (RX1, TX1, 6)) hC hX hE.2.1 hF hH (c_X1_kind (l := l) (mem := mem) hk hL hE hw (by omega) hf) kw271 kw272 kw278 kw204 kw280 kw279 kw273 kw277 (by decide +kernel) a_X1_kind.2 hw.2.2.2.1 (sWk hw hc) rfl rfl hls (rmk hR (by omega) (by omega)) hW hdg kk
  have hf := ifn hc hf
  have hz1 := hc
  clear hc
  by_cases hc : wkd w = 2
  · have hf := ifp hc hf
    exact c_U1 (As := []) (rest := rest) (o := w) (x := ⟨"OnTiptoe$Walker", "kind", "()I"⟩) (owner := "OnTiptoe$Walker") (b0 := cX9_kind) (m0 := 1) (r0 := (some .int)) (q := (RX6, TX6, 6)) hC hX hE.2.1 hF hH (c_X6_kind (l := l) (mem := mem) hk hL hE hw (by omega) hf) kw271 kw272 kw284 kw207 kw286 kw285 kw273 kw277 (by decide +kernel) a_X6_kind.2 hw.2.2.2.1 (sWk hw hc) rfl rfl hls (rmk hR (by omega) (by omega)) hW hdg kk
  have hf := ifn hc hf
  have hz2 := hc
  clear hc
  by_cases hc : wkd w = 3
  · have hf := ifp hc hf
    exact c_U1 (As := []) (rest := rest) (o := w) (x := ⟨"OnTiptoe$Walker", "kind", "()I"⟩) (owner := "OnTiptoe$Walker") (b0 := cX9_kind) (m0 := 1) (r0 := (some .int)) (q := (RX5, TX5, 6)) hC hX hE.2.1 hF hH (c_X5_kind (l := l) (mem := mem) hk hL hE hw (by omega) hf) kw271 kw272 kw281 kw210 kw283 kw282 kw273 kw277 (by decide +kernel) a_X5_kind.2 hw.2.2.2.1 (sWk hw hc) rfl rfl hls (rmk hR (by omega) (by omega)) hW hdg kk
  have hf := ifn hc hf
  have hz3 := hc
  clear hc
  by_cases hc : wkd w = 4
  · have hf := ifp hc hf
    exact c_U1 (As := []) (rest := rest) (o := w) (x := ⟨"OnTiptoe$Walker", "kind", "()I"⟩) (owner := "OnTiptoe$Walker") (b0 := cX9_kind) (m0 := 1) (r0 := (some .int)) (q := (RX7, TX7, 6)) hC hX hE.2.1 hF hH (c_X7_kind (l := l) (mem := mem) hk hL hE hw (by omega) hf) kw271 kw272 kw287 kw213 kw289 kw288 kw273 kw277 (by decide +kernel) a_X7_kind.2 hw.2.2.2.1 (sWk hw hc) rfl rfl hls (rmk hR (by omega) (by omega)) hW hdg kk
  have hf := ifn hc hf
  have hz4 := hc
  clear hc
  by_cases hc : wkd w = 5
  · have hf := ifp hc hf
    exact c_U1 (As := []) (rest := rest) (o := w) (x := ⟨"OnTiptoe$Walker", "kind", "()I"⟩) (owner := "OnTiptoe$Walker") (b0 := cX9_kind) (m0 := 1) (r0 := (some .int)) (q := (RX0, TX0, 6)) hC hX hE.2.1 hF hH (c_X0_kind (l := l) (mem := mem) hk hL hE hw (by omega) hf) kw271 kw272 kw274 kw216 kw276 kw275 kw273 kw277 (by decide +kernel) a_X0_kind.2 hw.2.2.2.1 (sWk hw hc) rfl rfl hls (rmk hR (by omega) (by omega)) hW hdg kk
  have hf := ifn hc hf
  have hz5 := hc
  clear hc
  have hc : wkd w = 6 := by omega
  exact c_U1 (As := []) (rest := rest) (o := w) (x := ⟨"OnTiptoe$Walker", "kind", "()I"⟩) (owner := "OnTiptoe$Walker") (b0 := cX9_kind) (m0 := 1) (r0 := (some .int)) (q := (RX8, TX8, 8)) hC hX hE.2.1 hF hH (c_X8_kind (l := l) (mem := mem) hk hL hE hw (by omega) hf) kw271 kw272 kw290 kw219 kw292 kw291 kw273 kw277 (by decide +kernel) a_X8_kind.2 hw.2.2.2.1 (sWk hw hc) rfl rfl hls (rmk hR (by omega) (by omega)) hW hdg kk
def f_X11_taken (L : List Nat) (mem : gMem) (p0 : Int32) (p1 : Int32) : Option Int32 := if p1 < 0 then (some (-2 : Int32)) else if p1 < (7 : Int32) then (bd (f_X11_find L mem p0) fun (o1 : Option Nat) => oc o1 (some (-11 : Int32)) fun w2 => if wok L w2 then bd (f_X11_isOfKind L mem w2 p1) fun (x3 : Int32) => if x3 = 0 then (some (-12 : Int32)) else bd (d_kind L mem w2) fun (x4 : Int32) => some x4 else none) else some (-2 : Int32)
set_option maxRecDepth 100000 in
set_option maxHeartbeats 4000000 in
theorem c_X11_taken {l : Launch} {E : State → Prop} {D : va_G} {cy : Nat → ClassId} {ad : Nat → Nat} {L : List Nat} {mem : gMem} {p0 : Int32} {p1 : Int32} {rv : Int32} (hk : gOk ad L) (hL : ∀ o ∈ LX0, o ∈ L) (hE : gEok ad L E)  (h : f_X11_taken L mem p0 p1 = some rv) : gMet l yX11_taken cX11_taken 4 (some .int) 1 21 E D cy shX ad L [.ref (ad 0), .int p0, .int p1] mem mem (some (.int rv)) := by
  refine g_go (own := RX11) (by decide +kernel) rfl hE (Nat.le_of_ble_eq_true rfl) ?_
  intro p e s m args below meth c R Q hargs hR hQ hEs hC hr hX H locs ls hH hl
  have hF := gF_of hk
  have hl : lv_has ls 4 [(0, .ref (ad 0)), (1, .int p0), (2, .int p1)] := hl
  refine lv_iload_n hC.x hC.b dX11_taken_0 rfl (lv_at hl 2 rfl) ?_
  refine b_if_lt (tgt := 10) hC dX11_taken_1 (by decide) h (fun h => ?_) (fun h => ?_)
  · refine lv_bipush (v := -2) hC.x hC.b dX11_taken_10 rfl ?_
    rw [hQ]
    exact e_ir hC hr hH h dX11_taken_12
  · refine lv_iload_n hC.x hC.b dX11_taken_4 rfl (lv_at hl 2 rfl) ?_
    refine lv_bipush (v := 7) hC.x hC.b dX11_taken_5 rfl ?_
    refine b_ic_lt (tgt := 13) hC dX11_taken_7 (by decide) h (fun h => ?_) (fun h => ?_)
    · refine lv_aload_n hC.x hC.b dX11_taken_13 rfl (lv_at hl 0 rfl) ?_
      refine lv_iload_n hC.x hC.b dX11_taken_14 rfl (lv_at hl 1 rfl) ?_
      obtain ⟨o1, hf1, h⟩ := bd_e h
      refine c_V1 (As := [.int p0]) (rest := []) (o := 0) (q := (RX11, TX11, 13)) hC hX hE.2.1 hF hH (c_X11_find (l := l) hk hL hE hf1) kw267 kw268 kw269 kw2 kw270 a_X11_find.1 a_X11_find.2 (hL _ mX0) sX0 rfl rfl hl.1 (rmk hR (by decide) (by decide)) (Nat.le_of_ble_eq_true rfl) dX11_taken_15 (fun H locs hH => ?_)
      refine o_astn (lv' := [(3, va_rf (Option.map ad o1)), (0, .ref (ad 0)), (1, .int p0), (2, .int p1)]) hC dX11_taken_18 rfl hl (by decide) rfl (fun ls hl => ?_)
      refine o_aldn hC dX11_taken_19 rfl (lv_at hl 0 rfl) ?_
      refine b_nonnull (tgt := 26) hC dX11_taken_20 (by decide) h (fun ho h => ?_) (fun w2 hyw2 h => ?_)
      · subst ho
        have hl : lv_has ls 4 [(3, .null), (0, .ref (ad 0)), (1, .int p0), (2, .int p1)] := hl
        refine lv_bipush (v := -11) hC.x hC.b dX11_taken_23 rfl ?_
        rw [hQ]
        exact e_ir hC hr hH h dX11_taken_25
      · subst hyw2
        have hl : lv_has ls 4 [(3, .ref (ad w2)), (0, .ref (ad 0)), (1, .int p0), (2, .int p1)] := hl
        obtain ⟨hww2, h⟩ := chk h
        refine lv_aload_n hC.x hC.b dX11_taken_26 rfl (lv_at hl 0 rfl) ?_
        refine lv_iload_n hC.x hC.b dX11_taken_27 rfl (lv_at hl 3 rfl) ?_
        obtain ⟨x3, hf3, h⟩ := bd_e h
        refine c_S1 (As := [.ref (ad w2), .int p1]) (rest := []) hC hX hE.2.1 hF hH (c_X11_isOfKind (l := l) hk hL hE hww2 hf3) kw1283 kw1284 kw2 kw1285 a_X11_isOfKind.1 a_X11_isOfKind.2 rfl hl.1 (rmk hR (by decide) (by decide)) (Nat.le_of_ble_eq_true rfl) dX11_taken_28 (fun H locs hH => ?_)
        refine b_if_eq (tgt := 41) hC dX11_taken_31 (by decide) h (fun h => ?_) (fun h => ?_)
        · refine lv_bipush (v := -12) hC.x hC.b dX11_taken_41 rfl ?_
          rw [hQ]
          exact e_ir hC hr hH h dX11_taken_43
        · refine lv_aload_n hC.x hC.b dX11_taken_34 rfl (lv_at hl 0 rfl) ?_
          obtain ⟨x4, hf4, h⟩ := bd_e h
          refine v_X11_93_kind hC hX hk hL hE hF hH hww2 hf4 hl.1 hR (by decide) (by decide) (Nat.le_of_ble_eq_true rfl) dX11_taken_35 (fun H locs hH => ?_)
          refine lv_goto (tgt := 43) hC.x hC.b dX11_taken_38 (by decide) ?_
          rw [hQ]
          exact e_ir hC hr hH h dX11_taken_43
    · refine lv_bipush (v := -2) hC.x hC.b dX11_taken_10 rfl ?_
      rw [hQ]
      exact e_ir hC hr hH h dX11_taken_12
def s_X11_tape_72 (p2 : Int32) (p0 : Int32) (self4 : Int32 → gMem → Option (Int32 × gMem)) (x5 : Int32) (m6 : gMem) : Option (Int32 × gMem) := if p2 ≤ x5 then (some ((1 : Int32), m6)) else if okI p0 6 then oc (gR m6 5 (ix p0)) none fun t7 => if isT t7 then if okI x5 60 then lt1 (gsJ m6 t7 (ix x5) (0 : Int64)) fun (m8 : gMem) => lt1 (x5 + (1 : Int32)) fun (x9 : Int32) => (self4 x9 m8) else none else none else none
def f_X11_tape (L : List Nat) (mem : gMem) (p0 : Int32) (p1 : Int32) (p2 : Int32) : Option (Int32 × gMem) := bd (f_X11_isTape p0) fun (x1 : Int32) => if x1 = 0 then (some ((-1 : Int32), mem)) else if p1 = (-1 : Int32) then (if okI p0 6 then lt1 (gsI mem 3 (ix p0) (-1 : Int32)) fun (m10 : gMem) => if okI p0 6 then lt1 (gsI m10 4 (ix p0) (0 : Int32)) fun (m11 : gMem) => some ((1 : Int32), m11) else none else none) else if p1 < 0 then (some ((-2 : Int32), mem)) else if (5 : Int32) ≤ p1 then (some ((-2 : Int32), mem)) else if p2 ≤ (60 : Int32) then (if 0 ≤ p2 then (if okI p0 6 then lt1 (gsI mem 3 (ix p0) p1) fun (m2 : gMem) => if okI p0 6 then lt1 (gsI m2 4 (ix p0) p2) fun (m3 : gMem) => lq2 (s_X11_tape_72 p2 p0) 1000 (0 : Int32) m3 else none else none) else some ((-14 : Int32), mem)) else some ((-2 : Int32), mem)
set_option maxRecDepth 100000 in
set_option maxHeartbeats 4000000 in
theorem c_X11_tape {l : Launch} {E : State → Prop} {D : va_G} {cy : Nat → ClassId} {ad : Nat → Nat} {L : List Nat} {mem : gMem} {p0 : Int32} {p1 : Int32} {p2 : Int32} {rv : Int32} {memz : gMem} (hk : gOk ad L) (hL : ∀ o ∈ LX0, o ∈ L) (hE : gEok ad L E)  (h : f_X11_tape L mem p0 p1 p2 = some (rv, memz)) : gMet l yX11_tape cX11_tape 5 (some .int) 1 20 E D cy shX ad L [.ref (ad 0), .int p0, .int p1, .int p2] mem memz (some (.int rv)) := by
  refine g_go (own := RX11) (by decide +kernel) rfl hE (Nat.le_of_ble_eq_true rfl) ?_
  intro p e s m args below meth c R Q hargs hR hQ hEs hC hr hX H locs ls hH hl
  have hF := gF_of hk
  have hl : lv_has ls 5 [(0, .ref (ad 0)), (1, .int p0), (2, .int p1), (3, .int p2)] := hl
  refine lv_iload_n hC.x hC.b dX11_tape_0 rfl (lv_at hl 1 rfl) ?_
  obtain ⟨x1, hf1, h⟩ := bd_e h
  refine c_S1 (As := [.int p0]) (rest := []) hC hX hE.2.1 hF hH (c_X11_isTape (l := l) hk hL hE hf1) kw1046 kw1047 kw2 kw1048 a_X11_isTape.1 a_X11_isTape.2 rfl hl.1 (rmk hR (by decide) (by decide)) (Nat.le_of_ble_eq_true rfl) dX11_tape_1 (fun H locs hH => ?_)
  refine b_if_ne (tgt := 9) hC dX11_tape_4 (by decide) h (fun h => ?_) (fun h => ?_)
  · refine lv_iload_n hC.x hC.b dX11_tape_9 rfl (lv_at hl 2 rfl) ?_
    refine lv_iconst (v := -1) hC.x hC.b dX11_tape_10 rfl ?_
    refine b_ic_ne (tgt := 30) hC dX11_tape_11 (by decide) h (fun h => ?_) (fun h => ?_)
    · refine lv_iload_n hC.x hC.b dX11_tape_30 rfl (lv_at hl 2 rfl) ?_
      refine b_if_lt (tgt := 45) hC dX11_tape_31 (by decide) h (fun h => ?_) (fun h => ?_)
      · refine lv_bipush (v := -2) hC.x hC.b dX11_tape_45 rfl ?_
        rw [hQ]
        exact e_i hC hr hH h dX11_tape_47
      · refine lv_iload_n hC.x hC.b dX11_tape_34 rfl (lv_at hl 2 rfl) ?_
        refine lv_iconst (v := 5) hC.x hC.b dX11_tape_35 rfl ?_
        refine b_ic_ge (tgt := 45) hC dX11_tape_36 (by decide) h (fun h => ?_) (fun h => ?_)
        · refine lv_bipush (v := -2) hC.x hC.b dX11_tape_45 rfl ?_
          rw [hQ]
          exact e_i hC hr hH h dX11_tape_47
        · refine lv_iload_n hC.x hC.b dX11_tape_39 rfl (lv_at hl 3 rfl) ?_
          refine lv_bipush (v := 60) hC.x hC.b dX11_tape_40 rfl ?_
          refine b_ic_le (tgt := 48) hC dX11_tape_42 (by decide) h (fun h => ?_) (fun h => ?_)
          · refine lv_iload_n hC.x hC.b dX11_tape_48 rfl (lv_at hl 3 rfl) ?_
            refine b_if_ge (tgt := 55) hC dX11_tape_49 (by decide) h (fun h => ?_) (fun h => ?_)
            · refine lv_aload_n hC.x hC.b dX11_tape_55 rfl (lv_at hl 0 rfl) ?_
              refine r_getc (z := 3) hC hH fl_X11_47_11 (hL _ mX0) sX0 rfl dX11_tape_56 ?_
              refine lv_iload_n hC.x hC.b dX11_tape_59 rfl (lv_at hl 1 rfl) ?_
              refine lv_iload_n hC.x hC.b dX11_tape_60 rfl (lv_at hl 2 rfl) ?_
              refine r_iast hC hF hH (hL _ mX3) sX3 h dX11_tape_61 (fun m2 H locs h hH => ?_)
              refine lv_aload_n hC.x hC.b dX11_tape_62 rfl (lv_at hl 0 rfl) ?_
              refine r_getc (z := 4) hC hH fl_X11_51_11 (hL _ mX0) sX0 rfl dX11_tape_63 ?_
              refine lv_iload_n hC.x hC.b dX11_tape_66 rfl (lv_at hl 1 rfl) ?_
              refine lv_iload_n hC.x hC.b dX11_tape_67 rfl (lv_at hl 3 rfl) ?_
              refine r_iast hC hF hH (hL _ mX4) sX4 h dX11_tape_68 (fun m3 H locs h hH => ?_)
              refine lv_iconst (v := 0) hC.x hC.b dX11_tape_69 rfl ?_
              refine lv_istore (lv' := [(4, .int (0 : Int32)), (0, .ref (ad 0)), (1, .int p0), (2, .int p1), (3, .int p2)]) hC.x hC.b dX11_tape_70 hl (by decide) rfl (fun ls hl => ?_)
              have hl4 : ∀ (n : Nat) (x5 : Int32) (m6 : gMem) (H : Heap) (locs : List Loc) (ls : Array Slot), lq2 (s_X11_tape_72 p2 p0) n x5 m6 = some (rv, memz) → gH D cy shX ad L (gA ad L) s.heap m6 H locs → lv_has ls 5 [(0, .ref (ad 0)), (1, .int p0), (3, .int p2), (4, .int x5)] → W p l e R s m args below meth c H locs 0 0 Q (F0 m 72 ls []) := by
                intro n
                induction n with
                | zero => intro x5 m6 H locs ls h _ _; exact lq2_0 h
                | succ n ih4 =>
                  intro x5 m6 H locs ls h hH hl
                  obtain ⟨self4, es4, h⟩ := lq2_s h
                  refine lv_iload hC.x hC.b dX11_tape_72 (lv_at hl 3 rfl) ?_
                  refine lv_iload_n hC.x hC.b dX11_tape_74 rfl (lv_at hl 2 rfl) ?_
                  refine b_ic_ge (tgt := 94) hC dX11_tape_75 (by decide) h (fun h => ?_) (fun h => ?_)
                  · refine lv_iconst (v := 1) hC.x hC.b dX11_tape_94 rfl ?_
                    rw [hQ]
                    exact e_i hC hr hH h dX11_tape_95
                  · refine lv_aload_n hC.x hC.b dX11_tape_78 rfl (lv_at hl 0 rfl) ?_
                    refine r_getc (z := 5) hC hH fl_X11_56_11 (hL _ mX0) sX0 rfl dX11_tape_79 ?_
                    refine lv_iload_n hC.x hC.b dX11_tape_82 rfl (lv_at hl 1 rfl) ?_
                    refine r_aald (t := 2) hC hH (hL _ mX5) sX5 rfl rfl h dX11_tape_83 (fun h => ?_)
                    refine d_top h (fun t7 hyt7 h => ?_)
                    obtain ⟨hTt7, h⟩ := chk h
                    refine lv_iload hC.x hC.b dX11_tape_84 (lv_at hl 3 rfl) ?_
                    refine lv_lconst (v := 0) hC.x hC.b dX11_tape_86 rfl ?_
                    refine r_last hC hF hH (hL _ (mT hTt7)) (sT0 hTt7) h dX11_tape_87 (fun m8 H locs h hH => ?_)
                    refine i_inc (lv' := fun x9 => [(4, .int x9), (0, .ref (ad 0)), (1, .int p0), (3, .int p2)]) hC dX11_tape_88 hl (k := 3) rfl (by decide) (fun _ => rfl) (z := 1) rfl h (fun x9 ls h hl => ?_)
                    refine lv_goto (tgt := 72) hC.x hC.b dX11_tape_91 (by decide) ?_
                    exact ih4 x9 m8 H locs ls (ap2 es4 h) hH (lv_sub hl [1, 2, 3, 0] rfl)
              exact hl4 _ (0 : Int32) m3 H locs ls h hH (lv_sub hl [1, 2, 4, 0] rfl)
            · refine lv_bipush (v := -14) hC.x hC.b dX11_tape_52 rfl ?_
              rw [hQ]
              exact e_i hC hr hH h dX11_tape_54
          · refine lv_bipush (v := -2) hC.x hC.b dX11_tape_45 rfl ?_
            rw [hQ]
            exact e_i hC hr hH h dX11_tape_47
    · refine lv_aload_n hC.x hC.b dX11_tape_14 rfl (lv_at hl 0 rfl) ?_
      refine r_getc (z := 3) hC hH fl_X11_47_11 (hL _ mX0) sX0 rfl dX11_tape_15 ?_
      refine lv_iload_n hC.x hC.b dX11_tape_18 rfl (lv_at hl 1 rfl) ?_
      refine lv_iconst (v := -1) hC.x hC.b dX11_tape_19 rfl ?_
      refine r_iast hC hF hH (hL _ mX3) sX3 h dX11_tape_20 (fun m10 H locs h hH => ?_)
      refine lv_aload_n hC.x hC.b dX11_tape_21 rfl (lv_at hl 0 rfl) ?_
      refine r_getc (z := 4) hC hH fl_X11_51_11 (hL _ mX0) sX0 rfl dX11_tape_22 ?_
      refine lv_iload_n hC.x hC.b dX11_tape_25 rfl (lv_at hl 1 rfl) ?_
      refine lv_iconst (v := 0) hC.x hC.b dX11_tape_26 rfl ?_
      refine r_iast hC hF hH (hL _ mX4) sX4 h dX11_tape_27 (fun m11 H locs h hH => ?_)
      refine lv_iconst (v := 1) hC.x hC.b dX11_tape_28 rfl ?_
      rw [hQ]
      exact e_i hC hr hH h dX11_tape_29
  · refine lv_iconst (v := -1) hC.x hC.b dX11_tape_7 rfl ?_
    rw [hQ]
    exact e_i hC hr hH h dX11_tape_8
theorem a_X11_hasPlace : noMH yX11_hasPlace.cls ∧ arity yX11_hasPlace.desc 2 := by decide +kernel
theorem a_X11_lowestBits : noMH yX11_lowestBits.cls ∧ arity yX11_lowestBits.desc 2 := by decide +kernel
def f_X11_item (L : List Nat) (mem : gMem) (p0 : Int32) (p1 : Int32) (p2 : Int64) : Option (Int32 × gMem) := bd (f_X11_isTape p0) fun (x1 : Int32) => if x1 = 0 then (some ((-1 : Int32), mem)) else if okI p0 6 then if (gI mem 3 (ix p0)) = (-1 : Int32) then (some ((-11 : Int32), mem)) else bd (f_X11_hasPlace L mem p0 p1) fun (x2 : Int32) => if x2 = 0 then (some ((-13 : Int32), mem)) else if okI p0 6 then oc (gR mem 5 (ix p0)) none fun t3 => if isT t3 then if okI p0 6 then bd (f_X11_lowestBits (gI mem 3 (ix p0)) p2) fun (y4 : Int64) => if okI p1 60 then lt1 (gsJ mem t3 (ix p1) y4) fun (m5 : gMem) => some ((1 : Int32), m5) else none else none else none else none else none
set_option maxRecDepth 100000 in
set_option maxHeartbeats 4000000 in
theorem c_X11_item {l : Launch} {E : State → Prop} {D : va_G} {cy : Nat → ClassId} {ad : Nat → Nat} {L : List Nat} {mem : gMem} {p0 : Int32} {p1 : Int32} {p2 : Int64} {rv : Int32} {memz : gMem} (hk : gOk ad L) (hL : ∀ o ∈ LX0, o ∈ L) (hE : gEok ad L E)  (h : f_X11_item L mem p0 p1 p2 = some (rv, memz)) : gMet l yX11_item cX11_item 5 (some .int) 1 22 E D cy shX ad L [.ref (ad 0), .int p0, .int p1, .long p2] mem memz (some (.int rv)) := by
  refine g_go (own := RX11) (by decide +kernel) rfl hE (Nat.le_of_ble_eq_true rfl) ?_
  intro p e s m args below meth c R Q hargs hR hQ hEs hC hr hX H locs ls hH hl
  have hF := gF_of hk
  have hl : lv_has ls 5 [(0, .ref (ad 0)), (1, .int p0), (2, .int p1), (3, .long p2)] := hl
  refine lv_iload_n hC.x hC.b dX11_item_0 rfl (lv_at hl 1 rfl) ?_
  obtain ⟨x1, hf1, h⟩ := bd_e h
  refine c_S1 (As := [.int p0]) (rest := []) hC hX hE.2.1 hF hH (c_X11_isTape (l := l) hk hL hE hf1) kw1046 kw1047 kw2 kw1048 a_X11_isTape.1 a_X11_isTape.2 rfl hl.1 (rmk hR (by decide) (by decide)) (Nat.le_of_ble_eq_true rfl) dX11_item_1 (fun H locs hH => ?_)
  refine b_if_ne (tgt := 9) hC dX11_item_4 (by decide) h (fun h => ?_) (fun h => ?_)
  · refine lv_aload_n hC.x hC.b dX11_item_9 rfl (lv_at hl 0 rfl) ?_
    refine r_getc (z := 3) hC hH fl_X11_47_11 (hL _ mX0) sX0 rfl dX11_item_10 ?_
    refine lv_iload_n hC.x hC.b dX11_item_13 rfl (lv_at hl 1 rfl) ?_
    refine r_iald hC hH (hL _ mX3) sX3 h dX11_item_14 (fun h => ?_)
    refine lv_iconst (v := -1) hC.x hC.b dX11_item_15 rfl ?_
    refine b_ic_ne (tgt := 22) hC dX11_item_16 (by decide) h (fun h => ?_) (fun h => ?_)
    · refine lv_aload_n hC.x hC.b dX11_item_22 rfl (lv_at hl 0 rfl) ?_
      refine lv_iload_n hC.x hC.b dX11_item_23 rfl (lv_at hl 1 rfl) ?_
      refine lv_iload_n hC.x hC.b dX11_item_24 rfl (lv_at hl 2 rfl) ?_
      obtain ⟨x2, hf2, h⟩ := bd_e h
      refine c_V1 (As := [.int p0, .int p1]) (rest := []) (o := 0) (q := (RX11, TX11, 13)) hC hX hE.2.1 hF hH (c_X11_hasPlace (l := l) hk hL hE hf2) kw1315 kw1316 kw1317 kw2 kw1318 a_X11_hasPlace.1 a_X11_hasPlace.2 (hL _ mX0) sX0 rfl rfl hl.1 (rmk hR (by decide) (by decide)) (Nat.le_of_ble_eq_true rfl) dX11_item_25 (fun H locs hH => ?_)
      refine b_if_ne (tgt := 34) hC dX11_item_28 (by decide) h (fun h => ?_) (fun h => ?_)
      · refine lv_aload_n hC.x hC.b dX11_item_34 rfl (lv_at hl 0 rfl) ?_
        refine r_getc (z := 5) hC hH fl_X11_56_11 (hL _ mX0) sX0 rfl dX11_item_35 ?_
        refine lv_iload_n hC.x hC.b dX11_item_38 rfl (lv_at hl 1 rfl) ?_
        refine r_aald (t := 2) hC hH (hL _ mX5) sX5 rfl rfl h dX11_item_39 (fun h => ?_)
        refine d_top h (fun t3 hyt3 h => ?_)
        obtain ⟨hTt3, h⟩ := chk h
        refine lv_iload_n hC.x hC.b dX11_item_40 rfl (lv_at hl 2 rfl) ?_
        refine lv_aload_n hC.x hC.b dX11_item_41 rfl (lv_at hl 0 rfl) ?_
        refine r_getc (z := 3) hC hH fl_X11_47_11 (hL _ mX0) sX0 rfl dX11_item_42 ?_
        refine lv_iload_n hC.x hC.b dX11_item_45 rfl (lv_at hl 1 rfl) ?_
        refine r_iald hC hH (hL _ mX3) sX3 h dX11_item_46 (fun h => ?_)
        refine lv_lload_n hC.x hC.b dX11_item_47 rfl (lv_at hl 3 rfl) ?_
        obtain ⟨y4, hf4, h⟩ := bd_e h
        refine c_S1 (As := [.int (gI mem 3 (ix p0)), .long p2]) (rest := [.int p1, .ref (ad t3)]) hC hX hE.2.1 hF hH (c_X11_lowestBits (l := l) hk hL hE hf4) kw1319 kw1320 kw2 kw1321 a_X11_lowestBits.1 a_X11_lowestBits.2 rfl hl.1 (rmk hR (by decide) (by decide)) (Nat.le_of_ble_eq_true rfl) dX11_item_48 (fun H locs hH => ?_)
        refine r_last hC hF hH (hL _ (mT hTt3)) (sT0 hTt3) h dX11_item_51 (fun m5 H locs h hH => ?_)
        refine lv_iconst (v := 1) hC.x hC.b dX11_item_52 rfl ?_
        rw [hQ]
        exact e_i hC hr hH h dX11_item_53
      · refine lv_bipush (v := -13) hC.x hC.b dX11_item_31 rfl ?_
        rw [hQ]
        exact e_i hC hr hH h dX11_item_33
    · refine lv_bipush (v := -11) hC.x hC.b dX11_item_19 rfl ?_
      rw [hQ]
      exact e_i hC hr hH h dX11_item_21
  · refine lv_iconst (v := -1) hC.x hC.b dX11_item_7 rfl ?_
    rw [hQ]
    exact e_i hC hr hH h dX11_item_8
def f_X11_read (L : List Nat) (mem : gMem) (p0 : Int32) (p1 : Int32) : Option Int64 := bd (f_X11_isTape p0) fun (x1 : Int32) => if x1 = 0 then (some (-9223372036854775808 : Int64)) else if okI p0 6 then if (gI mem 3 (ix p0)) = (-1 : Int32) then (some (-9223372036854775808 : Int64)) else bd (f_X11_hasPlace L mem p0 p1) fun (x2 : Int32) => if x2 = 0 then (some (-9223372036854775808 : Int64)) else if okI p0 6 then oc (gR mem 5 (ix p0)) none fun t3 => if isT t3 then if okI p1 60 then some (gJ mem t3 (ix p1)) else none else none else none else none
set_option maxRecDepth 100000 in
set_option maxHeartbeats 4000000 in
theorem c_X11_read {l : Launch} {E : State → Prop} {D : va_G} {cy : Nat → ClassId} {ad : Nat → Nat} {L : List Nat} {mem : gMem} {p0 : Int32} {p1 : Int32} {rv : Int64} (hk : gOk ad L) (hL : ∀ o ∈ LX0, o ∈ L) (hE : gEok ad L E)  (h : f_X11_read L mem p0 p1 = some rv) : gMet l yX11_read cX11_read 3 (some .long) 1 22 E D cy shX ad L [.ref (ad 0), .int p0, .int p1] mem mem (some (.long rv)) := by
  refine g_go (own := RX11) (by decide +kernel) rfl hE (Nat.le_of_ble_eq_true rfl) ?_
  intro p e s m args below meth c R Q hargs hR hQ hEs hC hr hX H locs ls hH hl
  have hF := gF_of hk
  have hl : lv_has ls 3 [(0, .ref (ad 0)), (1, .int p0), (2, .int p1)] := hl
  refine lv_iload_n hC.x hC.b dX11_read_0 rfl (lv_at hl 1 rfl) ?_
  obtain ⟨x1, hf1, h⟩ := bd_e h
  refine c_S1 (As := [.int p0]) (rest := []) hC hX hE.2.1 hF hH (c_X11_isTape (l := l) hk hL hE hf1) kw1046 kw1047 kw2 kw1048 a_X11_isTape.1 a_X11_isTape.2 rfl hl.1 (rmk hR (by decide) (by decide)) (Nat.le_of_ble_eq_true rfl) dX11_read_1 (fun H locs hH => ?_)
  refine b_if_eq (tgt := 26) hC dX11_read_4 (by decide) h (fun h => ?_) (fun h => ?_)
  · refine lv_ldc2 (v := -9223372036854775808) hC.x hC.b hC.ow (hC.ts _ kw998) dX11_read_26 ?_
    rw [hQ]
    exact e_lr hC hr hH h dX11_read_29
  · refine lv_aload_n hC.x hC.b dX11_read_7 rfl (lv_at hl 0 rfl) ?_
    refine r_getc (z := 3) hC hH fl_X11_47_11 (hL _ mX0) sX0 rfl dX11_read_8 ?_
    refine lv_iload_n hC.x hC.b dX11_read_11 rfl (lv_at hl 1 rfl) ?_
    refine r_iald hC hH (hL _ mX3) sX3 h dX11_read_12 (fun h => ?_)
    refine lv_iconst (v := -1) hC.x hC.b dX11_read_13 rfl ?_
    refine b_ic_eq (tgt := 26) hC dX11_read_14 (by decide) h (fun h => ?_) (fun h => ?_)
    · refine lv_ldc2 (v := -9223372036854775808) hC.x hC.b hC.ow (hC.ts _ kw998) dX11_read_26 ?_
      rw [hQ]
      exact e_lr hC hr hH h dX11_read_29
    · refine lv_aload_n hC.x hC.b dX11_read_17 rfl (lv_at hl 0 rfl) ?_
      refine lv_iload_n hC.x hC.b dX11_read_18 rfl (lv_at hl 1 rfl) ?_
      refine lv_iload_n hC.x hC.b dX11_read_19 rfl (lv_at hl 2 rfl) ?_
      obtain ⟨x2, hf2, h⟩ := bd_e h
      refine c_V1 (As := [.int p0, .int p1]) (rest := []) (o := 0) (q := (RX11, TX11, 13)) hC hX hE.2.1 hF hH (c_X11_hasPlace (l := l) hk hL hE hf2) kw1315 kw1316 kw1317 kw2 kw1318 a_X11_hasPlace.1 a_X11_hasPlace.2 (hL _ mX0) sX0 rfl rfl hl.1 (rmk hR (by decide) (by decide)) (Nat.le_of_ble_eq_true rfl) dX11_read_20 (fun H locs hH => ?_)
      refine b_if_ne (tgt := 30) hC dX11_read_23 (by decide) h (fun h => ?_) (fun h => ?_)
      · refine lv_aload_n hC.x hC.b dX11_read_30 rfl (lv_at hl 0 rfl) ?_
        refine r_getc (z := 5) hC hH fl_X11_56_11 (hL _ mX0) sX0 rfl dX11_read_31 ?_
        refine lv_iload_n hC.x hC.b dX11_read_34 rfl (lv_at hl 1 rfl) ?_
        refine r_aald (t := 2) hC hH (hL _ mX5) sX5 rfl rfl h dX11_read_35 (fun h => ?_)
        refine d_top h (fun t3 hyt3 h => ?_)
        obtain ⟨hTt3, h⟩ := chk h
        refine lv_iload_n hC.x hC.b dX11_read_36 rfl (lv_at hl 2 rfl) ?_
        refine r_lald hC hH (hL _ (mT hTt3)) (sT0 hTt3) h dX11_read_37 (fun h => ?_)
        rw [hQ]
        exact e_lr hC hr hH h dX11_read_38
      · refine lv_ldc2 (v := -9223372036854775808) hC.x hC.b hC.ow (hC.ts _ kw998) dX11_read_26 ?_
        rw [hQ]
        exact e_lr hC hr hH h dX11_read_29
theorem a_X11_hasPart : noMH yX11_hasPart.cls ∧ arity yX11_hasPart.desc 3 := by decide +kernel
theorem fl_X11_59_11 : gFl RX11 59 11 12 := ⟨RX11, TX11, 13, "OnTiptoe", rfl, inW11, by decide, kw36, Or.inl rfl⟩
def s_X11_shift_120 (p4 : Int32) (p2 : Int32) (p3 : Int32) (self13 : Int32 → gMem → Option (Int32 × gMem)) (x14 : Int32) (m15 : gMem) : Option (Int32 × gMem) := if p4 ≤ x14 then (some (p4, m15)) else if okI p2 6 then oc (gR m15 5 (ix p2)) none fun t16 => if isT t16 then if okI x14 60 then if okI (p3 + x14) 60 then lt1 (gsJ m15 t16 (ix (p3 + x14)) (gJ m15 6 (ix x14))) fun (m17 : gMem) => lt1 (x14 + (1 : Int32)) fun (x18 : Int32) => (self13 x18 m17) else none else none else none else none
def s_X11_shift_86 (p4 : Int32) (j5 : gMem → Option (Int32 × gMem)) (p0 : Int32) (p1 : Int32) (self6 : Int32 → gMem → Option (Int32 × gMem)) (x7 : Int32) (m8 : gMem) : Option (Int32 × gMem) := if p4 ≤ x7 then ((j5 m8)) else if okI p0 6 then oc (gR m8 5 (ix p0)) none fun t9 => if isT t9 then if okI (p1 + x7) 60 then if okI x7 60 then lt1 (gsJ m8 6 (ix x7) (gJ m8 t9 (ix (p1 + x7)))) fun (m10 : gMem) => lt1 (x7 + (1 : Int32)) fun (x11 : Int32) => (self6 x11 m10) else none else none else none else none
def f_X11_shift (L : List Nat) (mem : gMem) (p0 : Int32) (p1 : Int32) (p2 : Int32) (p3 : Int32) (p4 : Int32) : Option (Int32 × gMem) := bd (f_X11_isTape p0) fun (x1 : Int32) => if x1 = 0 then (some ((-1 : Int32), mem)) else bd (f_X11_isTape p2) fun (x2 : Int32) => if x2 = 0 then (some ((-1 : Int32), mem)) else if okI p0 6 then if (gI mem 3 (ix p0)) = (-1 : Int32) then (some ((-11 : Int32), mem)) else if okI p2 6 then if (gI mem 3 (ix p2)) = (-1 : Int32) then (some ((-11 : Int32), mem)) else if okI p0 6 then if okI p2 6 then if (gI mem 3 (ix p0)) = (gI mem 3 (ix p2)) then (bd (f_X11_hasPart L mem p0 p1 p4) fun (x3 : Int32) => if x3 = 0 then (some ((-13 : Int32), mem)) else bd (f_X11_hasPart L mem p2 p3 p4) fun (x4 : Int32) => if x4 = 0 then (some ((-13 : Int32), mem)) else jn ((fun (m12 : gMem) => lq2 (s_X11_shift_120 p4 p2 p3) 1000 (0 : Int32) m12) : gMem → Option (Int32 × gMem)) fun j5 => lq2 (s_X11_shift_86 p4 j5 p0 p1) 1000 (0 : Int32) mem) else some ((-12 : Int32), mem) else none else none else none else none
set_option maxRecDepth 100000 in
set_option maxHeartbeats 4000000 in
theorem c_X11_shift {l : Launch} {E : State → Prop} {D : va_G} {cy : Nat → ClassId} {ad : Nat → Nat} {L : List Nat} {mem : gMem} {p0 : Int32} {p1 : Int32} {p2 : Int32} {p3 : Int32} {p4 : Int32} {rv : Int32} {memz : gMem} (hk : gOk ad L) (hL : ∀ o ∈ LX0, o ∈ L) (hE : gEok ad L E)  (h : f_X11_shift L mem p0 p1 p2 p3 p4 = some (rv, memz)) : gMet l yX11_shift cX11_shift 7 (some .int) 2 45 E D cy shX ad L [.ref (ad 0), .int p0, .int p1, .int p2, .int p3, .int p4] mem memz (some (.int rv)) := by
  refine g_go (own := RX11) (by decide +kernel) rfl hE (Nat.le_of_ble_eq_true rfl) ?_
  intro p e s m args below meth c R Q hargs hR hQ hEs hC hr hX H locs ls hH hl
  have hF := gF_of hk
  have hl : lv_has ls 7 [(0, .ref (ad 0)), (1, .int p0), (2, .int p1), (3, .int p2), (4, .int p3), (5, .int p4)] := hl
  refine lv_iload_n hC.x hC.b dX11_shift_0 rfl (lv_at hl 1 rfl) ?_
  obtain ⟨x1, hf1, h⟩ := bd_e h
  refine c_S1 (As := [.int p0]) (rest := []) hC hX hE.2.1 hF hH (c_X11_isTape (l := l) hk hL hE hf1) kw1046 kw1047 kw2 kw1048 a_X11_isTape.1 a_X11_isTape.2 rfl hl.1 (rmk hR (by decide) (by decide)) (Nat.le_of_ble_eq_true rfl) dX11_shift_1 (fun H locs hH => ?_)
  refine b_if_eq (tgt := 14) hC dX11_shift_4 (by decide) h (fun h => ?_) (fun h => ?_)
  · refine lv_iconst (v := -1) hC.x hC.b dX11_shift_14 rfl ?_
    rw [hQ]
    exact e_i hC hr hH h dX11_shift_15
  · refine lv_iload_n hC.x hC.b dX11_shift_7 rfl (lv_at hl 3 rfl) ?_
    obtain ⟨x2, hf2, h⟩ := bd_e h
    refine c_S1 (As := [.int p2]) (rest := []) hC hX hE.2.1 hF hH (c_X11_isTape (l := l) hk hL hE hf2) kw1046 kw1047 kw2 kw1048 a_X11_isTape.1 a_X11_isTape.2 rfl hl.1 (rmk hR (by decide) (by decide)) (Nat.le_of_ble_eq_true rfl) dX11_shift_8 (fun H locs hH => ?_)
    refine b_if_ne (tgt := 16) hC dX11_shift_11 (by decide) h (fun h => ?_) (fun h => ?_)
    · refine lv_aload_n hC.x hC.b dX11_shift_16 rfl (lv_at hl 0 rfl) ?_
      refine r_getc (z := 3) hC hH fl_X11_47_11 (hL _ mX0) sX0 rfl dX11_shift_17 ?_
      refine lv_iload_n hC.x hC.b dX11_shift_20 rfl (lv_at hl 1 rfl) ?_
      refine r_iald hC hH (hL _ mX3) sX3 h dX11_shift_21 (fun h => ?_)
      refine lv_iconst (v := -1) hC.x hC.b dX11_shift_22 rfl ?_
      refine b_ic_eq (tgt := 36) hC dX11_shift_23 (by decide) h (fun h => ?_) (fun h => ?_)
      · refine lv_bipush (v := -11) hC.x hC.b dX11_shift_36 rfl ?_
        rw [hQ]
        exact e_i hC hr hH h dX11_shift_38
      · refine lv_aload_n hC.x hC.b dX11_shift_26 rfl (lv_at hl 0 rfl) ?_
        refine r_getc (z := 3) hC hH fl_X11_47_11 (hL _ mX0) sX0 rfl dX11_shift_27 ?_
        refine lv_iload_n hC.x hC.b dX11_shift_30 rfl (lv_at hl 3 rfl) ?_
        refine r_iald hC hH (hL _ mX3) sX3 h dX11_shift_31 (fun h => ?_)
        refine lv_iconst (v := -1) hC.x hC.b dX11_shift_32 rfl ?_
        refine b_ic_ne (tgt := 39) hC dX11_shift_33 (by decide) h (fun h => ?_) (fun h => ?_)
        · refine lv_aload_n hC.x hC.b dX11_shift_39 rfl (lv_at hl 0 rfl) ?_
          refine r_getc (z := 3) hC hH fl_X11_47_11 (hL _ mX0) sX0 rfl dX11_shift_40 ?_
          refine lv_iload_n hC.x hC.b dX11_shift_43 rfl (lv_at hl 1 rfl) ?_
          refine r_iald hC hH (hL _ mX3) sX3 h dX11_shift_44 (fun h => ?_)
          refine lv_aload_n hC.x hC.b dX11_shift_45 rfl (lv_at hl 0 rfl) ?_
          refine r_getc (z := 3) hC hH fl_X11_47_11 (hL _ mX0) sX0 rfl dX11_shift_46 ?_
          refine lv_iload_n hC.x hC.b dX11_shift_49 rfl (lv_at hl 3 rfl) ?_
          refine r_iald hC hH (hL _ mX3) sX3 h dX11_shift_50 (fun h => ?_)
          refine b_ic_eq (tgt := 57) hC dX11_shift_51 (by decide) h (fun h => ?_) (fun h => ?_)
          · refine lv_aload_n hC.x hC.b dX11_shift_57 rfl (lv_at hl 0 rfl) ?_
            refine lv_iload_n hC.x hC.b dX11_shift_58 rfl (lv_at hl 1 rfl) ?_
            refine lv_iload_n hC.x hC.b dX11_shift_59 rfl (lv_at hl 2 rfl) ?_
            refine lv_iload hC.x hC.b dX11_shift_60 (lv_at hl 5 rfl) ?_
            obtain ⟨x3, hf3, h⟩ := bd_e h
            refine c_V1 (As := [.int p0, .int p1, .int p4]) (rest := []) (o := 0) (q := (RX11, TX11, 13)) hC hX hE.2.1 hF hH (c_X11_hasPart (l := l) hk hL hE hf3) kw1342 kw1343 kw1344 kw2 kw1345 a_X11_hasPart.1 a_X11_hasPart.2 (hL _ mX0) sX0 rfl rfl hl.1 (rmk hR (by decide) (by decide)) (Nat.le_of_ble_eq_true rfl) dX11_shift_62 (fun H locs hH => ?_)
            refine b_if_eq (tgt := 80) hC dX11_shift_65 (by decide) h (fun h => ?_) (fun h => ?_)
            · refine lv_bipush (v := -13) hC.x hC.b dX11_shift_80 rfl ?_
              rw [hQ]
              exact e_i hC hr hH h dX11_shift_82
            · refine lv_aload_n hC.x hC.b dX11_shift_68 rfl (lv_at hl 0 rfl) ?_
              refine lv_iload_n hC.x hC.b dX11_shift_69 rfl (lv_at hl 3 rfl) ?_
              refine lv_iload hC.x hC.b dX11_shift_70 (lv_at hl 4 rfl) ?_
              refine lv_iload hC.x hC.b dX11_shift_72 (lv_at hl 5 rfl) ?_
              obtain ⟨x4, hf4, h⟩ := bd_e h
              refine c_V1 (As := [.int p2, .int p3, .int p4]) (rest := []) (o := 0) (q := (RX11, TX11, 13)) hC hX hE.2.1 hF hH (c_X11_hasPart (l := l) hk hL hE hf4) kw1342 kw1343 kw1344 kw2 kw1345 a_X11_hasPart.1 a_X11_hasPart.2 (hL _ mX0) sX0 rfl rfl hl.1 (rmk hR (by decide) (by decide)) (Nat.le_of_ble_eq_true rfl) dX11_shift_74 (fun H locs hH => ?_)
              refine b_if_ne (tgt := 83) hC dX11_shift_77 (by decide) h (fun h => ?_) (fun h => ?_)
              · refine lv_iconst (v := 0) hC.x hC.b dX11_shift_83 rfl ?_
                refine lv_istore (lv' := [(6, .int (0 : Int32)), (0, .ref (ad 0)), (1, .int p0), (2, .int p1), (3, .int p2), (4, .int p3), (5, .int p4)]) hC.x hC.b dX11_shift_84 hl (by decide) rfl (fun ls hl => ?_)
                obtain ⟨j5, ej5, h⟩ := jn_e h
                have hj5 : ∀ (m12 : gMem) (H : Heap) (locs : List Loc) (ls : Array Slot), (j5 m12) = some (rv, memz) → gH D cy shX ad L (gA ad L) s.heap m12 H locs → lv_has ls 7 [(0, .ref (ad 0)), (3, .int p2), (4, .int p3), (5, .int p4)] → W p l e R s m args below meth c H locs 0 0 Q (F0 m 117 ls []) := by
                  intro m12 H locs ls h hH hl
                  have h := ap1 ej5 h
                  refine lv_iconst (v := 0) hC.x hC.b dX11_shift_117 rfl ?_
                  refine lv_istore (lv' := [(6, .int (0 : Int32)), (0, .ref (ad 0)), (3, .int p2), (4, .int p3), (5, .int p4)]) hC.x hC.b dX11_shift_118 hl (by decide) rfl (fun ls hl => ?_)
                  have hl13 : ∀ (n : Nat) (x14 : Int32) (m15 : gMem) (H : Heap) (locs : List Loc) (ls : Array Slot), lq2 (s_X11_shift_120 p4 p2 p3) n x14 m15 = some (rv, memz) → gH D cy shX ad L (gA ad L) s.heap m15 H locs → lv_has ls 7 [(0, .ref (ad 0)), (3, .int p2), (4, .int p3), (5, .int p4), (6, .int x14)] → W p l e R s m args below meth c H locs 0 0 Q (F0 m 120 ls []) := by
                    intro n
                    induction n with
                    | zero => intro x14 m15 H locs ls h _ _; exact lq2_0 h
                    | succ n ih13 =>
                      intro x14 m15 H locs ls h hH hl
                      obtain ⟨self13, es13, h⟩ := lq2_s h
                      refine lv_iload hC.x hC.b dX11_shift_120 (lv_at hl 4 rfl) ?_
                      refine lv_iload hC.x hC.b dX11_shift_122 (lv_at hl 3 rfl) ?_
                      refine b_ic_ge (tgt := 152) hC dX11_shift_124 (by decide) h (fun h => ?_) (fun h => ?_)
                      · refine lv_iload hC.x hC.b dX11_shift_152 (lv_at hl 3 rfl) ?_
                        rw [hQ]
                        exact e_i hC hr hH h dX11_shift_154
                      · refine lv_aload_n hC.x hC.b dX11_shift_127 rfl (lv_at hl 0 rfl) ?_
                        refine r_getc (z := 5) hC hH fl_X11_56_11 (hL _ mX0) sX0 rfl dX11_shift_128 ?_
                        refine lv_iload_n hC.x hC.b dX11_shift_131 rfl (lv_at hl 1 rfl) ?_
                        refine r_aald (t := 2) hC hH (hL _ mX5) sX5 rfl rfl h dX11_shift_132 (fun h => ?_)
                        refine d_top h (fun t16 hyt16 h => ?_)
                        obtain ⟨hTt16, h⟩ := chk h
                        refine lv_iload hC.x hC.b dX11_shift_133 (lv_at hl 2 rfl) ?_
                        refine lv_iload hC.x hC.b dX11_shift_135 (lv_at hl 4 rfl) ?_
                        refine lv_iadd hC.x hC.b dX11_shift_137 ?_
                        refine lv_aload_n hC.x hC.b dX11_shift_138 rfl (lv_at hl 0 rfl) ?_
                        refine r_getc (z := 6) hC hH fl_X11_59_11 (hL _ mX0) sX0 rfl dX11_shift_139 ?_
                        refine lv_iload hC.x hC.b dX11_shift_142 (lv_at hl 4 rfl) ?_
                        refine r_lald hC hH (hL _ mX6) sX6 h dX11_shift_144 (fun h => ?_)
                        refine r_last hC hF hH (hL _ (mT hTt16)) (sT0 hTt16) h dX11_shift_145 (fun m17 H locs h hH => ?_)
                        refine i_inc (lv' := fun x18 => [(6, .int x18), (0, .ref (ad 0)), (3, .int p2), (4, .int p3), (5, .int p4)]) hC dX11_shift_146 hl (k := 4) rfl (by decide) (fun _ => rfl) (z := 1) rfl h (fun x18 ls h hl => ?_)
                        refine lv_goto (tgt := 120) hC.x hC.b dX11_shift_149 (by decide) ?_
                        exact ih13 x18 m17 H locs ls (ap2 es13 h) hH (lv_sub hl [1, 2, 3, 4, 0] rfl)
                  exact hl13 _ (0 : Int32) m12 H locs ls h hH (lv_sub hl [1, 2, 3, 4, 0] rfl)
                clear ej5
                have hl6 : ∀ (n : Nat) (x7 : Int32) (m8 : gMem) (H : Heap) (locs : List Loc) (ls : Array Slot), lq2 (s_X11_shift_86 p4 j5 p0 p1) n x7 m8 = some (rv, memz) → gH D cy shX ad L (gA ad L) s.heap m8 H locs → lv_has ls 7 [(0, .ref (ad 0)), (1, .int p0), (2, .int p1), (3, .int p2), (4, .int p3), (5, .int p4), (6, .int x7)] → W p l e R s m args below meth c H locs 0 0 Q (F0 m 86 ls []) := by
                  intro n
                  induction n with
                  | zero => intro x7 m8 H locs ls h _ _; exact lq2_0 h
                  | succ n ih6 =>
                    intro x7 m8 H locs ls h hH hl
                    obtain ⟨self6, es6, h⟩ := lq2_s h
                    refine lv_iload hC.x hC.b dX11_shift_86 (lv_at hl 6 rfl) ?_
                    refine lv_iload hC.x hC.b dX11_shift_88 (lv_at hl 5 rfl) ?_
                    refine b_ic_ge (tgt := 117) hC dX11_shift_90 (by decide) h (fun h => ?_) (fun h => ?_)
                    · exact hj5 m8 H locs ls h hH (lv_sub hl [0, 3, 4, 5] rfl)
                    · refine lv_aload_n hC.x hC.b dX11_shift_93 rfl (lv_at hl 0 rfl) ?_
                      refine r_getc (z := 6) hC hH fl_X11_59_11 (hL _ mX0) sX0 rfl dX11_shift_94 ?_
                      refine lv_iload hC.x hC.b dX11_shift_97 (lv_at hl 6 rfl) ?_
                      refine lv_aload_n hC.x hC.b dX11_shift_99 rfl (lv_at hl 0 rfl) ?_
                      refine r_getc (z := 5) hC hH fl_X11_56_11 (hL _ mX0) sX0 rfl dX11_shift_100 ?_
                      refine lv_iload_n hC.x hC.b dX11_shift_103 rfl (lv_at hl 1 rfl) ?_
                      refine r_aald (t := 2) hC hH (hL _ mX5) sX5 rfl rfl h dX11_shift_104 (fun h => ?_)
                      refine d_top h (fun t9 hyt9 h => ?_)
                      obtain ⟨hTt9, h⟩ := chk h
                      refine lv_iload_n hC.x hC.b dX11_shift_105 rfl (lv_at hl 2 rfl) ?_
                      refine lv_iload hC.x hC.b dX11_shift_106 (lv_at hl 6 rfl) ?_
                      refine lv_iadd hC.x hC.b dX11_shift_108 ?_
                      refine r_lald hC hH (hL _ (mT hTt9)) (sT0 hTt9) h dX11_shift_109 (fun h => ?_)
                      refine r_last hC hF hH (hL _ mX6) sX6 h dX11_shift_110 (fun m10 H locs h hH => ?_)
                      refine i_inc (lv' := fun x11 => [(6, .int x11), (0, .ref (ad 0)), (1, .int p0), (2, .int p1), (3, .int p2), (4, .int p3), (5, .int p4)]) hC dX11_shift_111 hl (k := 6) rfl (by decide) (fun _ => rfl) (z := 1) rfl h (fun x11 ls h hl => ?_)
                      refine lv_goto (tgt := 86) hC.x hC.b dX11_shift_114 (by decide) ?_
                      exact ih6 x11 m10 H locs ls (ap2 es6 h) hH (lv_sub hl [1, 2, 3, 4, 5, 6, 0] rfl)
                exact hl6 _ (0 : Int32) mem H locs ls h hH (lv_sub hl [1, 2, 3, 4, 5, 6, 0] rfl)
              · refine lv_bipush (v := -13) hC.x hC.b dX11_shift_80 rfl ?_
                rw [hQ]
                exact e_i hC hr hH h dX11_shift_82
          · refine lv_bipush (v := -12) hC.x hC.b dX11_shift_54 rfl ?_
            rw [hQ]
            exact e_i hC hr hH h dX11_shift_56
        · refine lv_bipush (v := -11) hC.x hC.b dX11_shift_36 rfl ?_
          rw [hQ]
          exact e_i hC hr hH h dX11_shift_38
    · refine lv_iconst (v := -1) hC.x hC.b dX11_shift_14 rfl ?_
      rw [hQ]
      exact e_i hC hr hH h dX11_shift_15
theorem a_X11_boardBeside : noMH yX11_boardBeside.cls ∧ arity yX11_boardBeside.desc 2 := by decide +kernel
def s_X11_areBeside_4 (p1 : Int32) (p0 : Int32) (self1 : Int32 → Int32 → Option Int32) (x2 : Int32) (x3 : Int32) : Option Int32 := if (3 : Int32) ≤ x3 then (if isB x2 then some x2 else none) else bd (f_X11_isBoard p1) fun (x4 : Int32) => jn ((fun (x8 : Int32) => lt1 (x2 ||| x8) fun (x9 : Int32) => lt1 (x3 + (1 : Int32)) fun (x10 : Int32) => (self1 x9 x10)) : Int32 → Option Int32) fun j5 => jn (((j5 (0 : Int32))) : Option Int32) fun j6 => if x4 = 0 then (j6) else bd (f_X11_boardBeside p0 x3) fun (x7 : Int32) => if x7 = p1 then ((j5 (1 : Int32))) else j6
def f_X11_areBeside (p0 : Int32) (p1 : Int32) : Option Int32 := lq2 (s_X11_areBeside_4 p1 p0) 1000 (0 : Int32) (0 : Int32)
set_option maxRecDepth 100000 in
set_option maxHeartbeats 4000000 in
theorem c_X11_areBeside {l : Launch} {E : State → Prop} {D : va_G} {cy : Nat → ClassId} {ad : Nat → Nat} {L : List Nat} {mem : gMem} {p0 : Int32} {p1 : Int32} {rv : Int32} (hk : gOk ad L) (hL : ∀ o ∈ LX0, o ∈ L) (hE : gEok ad L E)  (h : f_X11_areBeside p0 p1 = some rv) : gMet l yX11_areBeside cX11_areBeside 4 (some .boolean) 1 22 E D cy shX ad L [.int p0, .int p1] mem mem (some (.int rv)) := by
  refine g_go (own := RX11) (by decide +kernel) rfl hE (Nat.le_of_ble_eq_true rfl) ?_
  intro p e s m args below meth c R Q hargs hR hQ hEs hC hr hX H locs ls hH hl
  have hF := gF_of hk
  have hl : lv_has ls 4 [(0, .int p0), (1, .int p1)] := hl
  refine lv_iconst (v := 0) hC.x hC.b dX11_areBeside_0 rfl ?_
  refine lv_istore_n (lv' := [(2, .int (0 : Int32)), (0, .int p0), (1, .int p1)]) hC.x hC.b dX11_areBeside_1 rfl hl (by decide) rfl (fun ls hl => ?_)
  refine lv_iconst (v := 0) hC.x hC.b dX11_areBeside_2 rfl ?_
  refine lv_istore_n (lv' := [(3, .int (0 : Int32)), (2, .int (0 : Int32)), (0, .int p0), (1, .int p1)]) hC.x hC.b dX11_areBeside_3 rfl hl (by decide) rfl (fun ls hl => ?_)
  have hl1 : ∀ (n : Nat) (x2 : Int32) (x3 : Int32) (H : Heap) (locs : List Loc) (ls : Array Slot), lq2 (s_X11_areBeside_4 p1 p0) n x2 x3 = some rv → gH D cy shX ad L (gA ad L) s.heap mem H locs → lv_has ls 4 [(0, .int p0), (1, .int p1), (2, .int x2), (3, .int x3)] → W p l e R s m args below meth c H locs 0 0 Q (F0 m 4 ls []) := by
    intro n
    induction n with
    | zero => intro x2 x3 H locs ls h _ _; exact lq2_0 h
    | succ n ih1 =>
      intro x2 x3 H locs ls h hH hl
      obtain ⟨self1, es1, h⟩ := lq2_s h
      refine lv_iload_n hC.x hC.b dX11_areBeside_4 rfl (lv_at hl 3 rfl) ?_
      refine lv_iconst (v := 3) hC.x hC.b dX11_areBeside_5 rfl ?_
      refine b_ic_ge (tgt := 39) hC dX11_areBeside_6 (by decide) h (fun h => ?_) (fun h => ?_)
      · refine lv_iload_n hC.x hC.b dX11_areBeside_39 rfl (lv_at hl 2 rfl) ?_
        rw [hQ]
        exact e_zr hC hr hH h dX11_areBeside_40
      · refine lv_iload_n hC.x hC.b dX11_areBeside_9 rfl (lv_at hl 2 rfl) ?_
        refine lv_iload_n hC.x hC.b dX11_areBeside_10 rfl (lv_at hl 1 rfl) ?_
        obtain ⟨x4, hf4, h⟩ := bd_e h
        refine c_S1 (As := [.int p1]) (rest := [.int x2]) hC hX hE.2.1 hF hH (c_X11_isBoard (l := l) hk hL hE hf4) kw156 kw157 kw2 kw158 a_X11_isBoard.1 a_X11_isBoard.2 rfl hl.1 (rmk hR (by decide) (by decide)) (Nat.le_of_ble_eq_true rfl) dX11_areBeside_11 (fun H locs hH => ?_)
        obtain ⟨j5, ej5, h⟩ := jn_e h
        have hj5 : ∀ (x8 : Int32) (H : Heap) (locs : List Loc) (ls : Array Slot), (j5 x8) = some rv → gH D cy shX ad L (gA ad L) s.heap mem H locs → lv_has ls 4 [(0, .int p0), (1, .int p1), (3, .int x3)] → W p l e R s m args below meth c H locs 0 0 Q (F0 m 31 ls [.int x8, .int x2]) := by
          intro x8 H locs ls h hH hl
          have h := ap1 ej5 h
          refine lv_ior hC.x hC.b dX11_areBeside_31 ?_
          refine n_i h (fun x9 h => ?_)
          refine lv_istore_n (lv' := [(2, .int x9), (0, .int p0), (1, .int p1), (3, .int x3)]) hC.x hC.b dX11_areBeside_32 rfl hl (by decide) rfl (fun ls hl => ?_)
          refine i_inc (lv' := fun x10 => [(3, .int x10), (2, .int x9), (0, .int p0), (1, .int p1)]) hC dX11_areBeside_33 hl (k := 3) rfl (by decide) (fun _ => rfl) (z := 1) rfl h (fun x10 ls h hl => ?_)
          refine lv_goto (tgt := 4) hC.x hC.b dX11_areBeside_36 (by decide) ?_
          exact ih1 x9 x10 H locs ls (ap2 es1 h) hH (lv_sub hl [2, 3, 1, 0] rfl)
        clear ej5
        obtain ⟨j6, ej6, h⟩ := jn_e h
        have hj6 : ∀  (H : Heap) (locs : List Loc) (ls : Array Slot), j6 = some rv → gH D cy shX ad L (gA ad L) s.heap mem H locs → lv_has ls 4 [(0, .int p0), (1, .int p1), (3, .int x3)] → W p l e R s m args below meth c H locs 0 0 Q (F0 m 30 ls [.int x2]) := by
          intro H locs ls h hH hl
          have h := ap0 ej6 h
          refine lv_iconst (v := 0) hC.x hC.b dX11_areBeside_30 rfl ?_
          exact hj5 (0 : Int32) H locs ls h hH (lv_sub hl [0, 1, 2] rfl)
        clear ej6
        refine b_if_eq (tgt := 30) hC dX11_areBeside_14 (by decide) h (fun h => ?_) (fun h => ?_)
        · exact hj6  H locs ls h hH (lv_sub hl [0, 1, 3] rfl)
        · refine lv_iload_n hC.x hC.b dX11_areBeside_17 rfl (lv_at hl 0 rfl) ?_
          refine lv_iload_n hC.x hC.b dX11_areBeside_18 rfl (lv_at hl 3 rfl) ?_
          obtain ⟨x7, hf7, h⟩ := bd_e h
          refine c_S1 (As := [.int p0, .int x3]) (rest := [.int x2]) hC hX hE.2.1 hF hH (c_X11_boardBeside (l := l) hk hL hE hf7) kw722 kw723 kw2 kw724 a_X11_boardBeside.1 a_X11_boardBeside.2 rfl hl.1 (rmk hR (by decide) (by decide)) (Nat.le_of_ble_eq_true rfl) dX11_areBeside_19 (fun H locs hH => ?_)
          refine lv_iload_n hC.x hC.b dX11_areBeside_22 rfl (lv_at hl 1 rfl) ?_
          refine b_ic_ne (tgt := 30) hC dX11_areBeside_23 (by decide) h (fun h => ?_) (fun h => ?_)
          · exact hj6  H locs ls h hH (lv_sub hl [0, 1, 3] rfl)
          · refine lv_iconst (v := 1) hC.x hC.b dX11_areBeside_26 rfl ?_
            refine lv_goto (tgt := 31) hC.x hC.b dX11_areBeside_27 (by decide) ?_
            exact hj5 (1 : Int32) H locs ls h hH (lv_sub hl [0, 1, 3] rfl)
  exact hl1 _ (0 : Int32) (0 : Int32) H locs ls h hH (lv_sub hl [2, 3, 1, 0] rfl)
theorem fk_X0_7 {j : Nat} (h : j = 5) : gFl RX0 7 (kci j) 1 := by
  rcases h with rfl
  · exact ⟨RX0, TX0, 6, "OnTiptoe$Bare", rfl, inW0, by decide, kw335, Or.inr kw336⟩
theorem a_X6_noise : noMH yX6_noise.cls ∧ arity yX6_noise.desc 2 := by decide +kernel
theorem u_X0_13 {p : Program} {l : Launch} {e : Env} {R : Room} {s : State} {m : MethodId} {args : Array Value} {below : List Frame} {meth : Method} {c : Code} {H : Heap} {locs : List Loc} {cells slots : Nat} {Q : State → Prop} {cc : ByteArray} {nL : Nat} {pc : Nat} {ls : Array Slot} {rest As : List Value} {D : va_G} {cy : Nat → ClassId} {ad : Nat → Nat} {L : List Nat} {A : Nat → Prop} {mem mem' : gMem} {E : State → Prop} {fr lo w : Nat} {v : Value} (hC : gC p s m args meth c cc nL RX0 D cy) (hX : gX A s E) (hB : eBl E) (hF : gF ad L A) (hH : gH D cy shX ad L A s.heap mem H locs) (hM : gMet l yX6_noise cX6_noise 3 (some .int) fr lo E D cy shX ad L (.ref (ad w) :: As) mem mem' (some v)) (hw : wok L w) (hk : wkd w = 5) (hn : As.length = 2) (hls : ls.size = nL) (hR : fr + 1 ≤ R.frames ∧ 8 + (3 + 11) + lo ≤ R.locals ∧ cells ≤ R.cells ∧ slots ≤ R.slots) (hW : (rest.map fun v => v.category).sum ≤ 8) (hdg : decode cc pc = .ok (.invokespecial 13, 3))
    (kk : ∀ (H1 : Heap) (locs1 : List Loc), gH D cy shX ad L A s.heap mem' H1 locs1 → W p l e R s m args below meth c H1 locs1 cells slots Q (F0 m (pc + 3) ls (v :: rest))) : W p l e R s m args below meth c H locs cells slots Q (F0 m pc ls (As.reverse ++ .ref (ad w) :: rest)) := by
  rcases hk with hk
  · exact c_SU1 (q := (RX0, TX0, 6)) hC hX hB hF hH hM kw337 kw338 kw339 kw207 kw341 kw340 (by decide +kernel) a_X6_noise.2 hw.2.2.2.1 (sWk hw hk) rfl hn hls hR hW hdg kk
def f_X0_noise (L : List Nat) (mem : gMem) (w0 : Nat) (p0 : Int32) (p1 : Int32) : Option Int32 := if (gI mem w0 1) < p0 then (bd (f_X6_noise L w0 p0 p1) fun (x1 : Int32) => some x1) else some (0 : Int32)
set_option maxRecDepth 100000 in
set_option maxHeartbeats 4000000 in
theorem c_X0_noise {l : Launch} {E : State → Prop} {D : va_G} {cy : Nat → ClassId} {ad : Nat → Nat} {L : List Nat} {mem : gMem} {w0 : Nat} {p0 : Int32} {p1 : Int32} {rv : Int32} (hk : gOk ad L) (hL : ∀ o ∈ LX0, o ∈ L) (hE : gEok ad L E) (hw0 : wok L w0) (hkd : wkd w0 = 5) (h : f_X0_noise L mem w0 p0 p1 = some rv) : gMet l yX0_noise cX0_noise 3 (some .int) 1 22 E D cy shX ad L [.ref (ad w0), .int p0, .int p1] mem mem (some (.int rv)) := by
  refine g_go (own := RX0) (by decide +kernel) rfl hE (Nat.le_of_ble_eq_true rfl) ?_
  intro p e s m args below meth c R Q hargs hR hQ hEs hC hr hX H locs ls hH hl
  have hF := gF_of hk
  have hl : lv_has ls 3 [(0, .ref (ad w0)), (1, .int p0), (2, .int p1)] := hl
  refine lv_iload_n hC.x hC.b dX0_noise_0 rfl (lv_at hl 1 rfl) ?_
  refine lv_aload_n hC.x hC.b dX0_noise_1 rfl (lv_at hl 0 rfl) ?_
  refine r_geti hC hH (fk_X0_7 hkd) hw0.2.2.2.1 (sW0 hw0) rfl dX0_noise_2 ?_
  refine b_ic_gt (tgt := 12) hC dX0_noise_5 (by decide) h (fun h => ?_) (fun h => ?_)
  · refine lv_aload_n hC.x hC.b dX0_noise_12 rfl (lv_at hl 0 rfl) ?_
    refine lv_iload_n hC.x hC.b dX0_noise_13 rfl (lv_at hl 1 rfl) ?_
    refine lv_iload_n hC.x hC.b dX0_noise_14 rfl (lv_at hl 2 rfl) ?_
    obtain ⟨x1, hf1, h⟩ := bd_e h
    refine u_X0_13 (As := [.int p0, .int p1]) (rest := []) hC hX hE.2.1 hF hH (c_X6_noise (l := l) hk hL hE hw0 (by have := hkd; omega) hf1) hw0 hkd rfl hl.1 (rmk hR (by decide) (by decide)) (Nat.le_of_ble_eq_true rfl) dX0_noise_15 (fun H locs hH => ?_)
    rw [hQ]
    exact e_ir hC hr hH h dX0_noise_18
  · refine lv_iconst (v := 0) hC.x hC.b dX0_noise_8 rfl ?_
    refine lv_goto (tgt := 18) hC.x hC.b dX0_noise_9 (by decide) ?_
    rw [hQ]
    exact e_ir hC hr hH h dX0_noise_18
theorem a_X3_testHolds : noMH yX3_testHolds.cls ∧ arity yX3_testHolds.desc 2 := by decide +kernel
def s_X3_holds_10 (p1 : Int32) (j2 : Int64 → Option Int32) (mem : gMem) (g0 : Nat) (L : List Nat) (self3 : Int64 → Int32 → Option Int32) (y4 : Int64) (x5 : Int32) : Option Int32 := if p1 ≤ x5 then ((j2 y4)) else if (100 : Int32) ≤ x5 then ((j2 y4)) else lt1 (y4 &&& (1 : Int64)) fun (y6 : Int64) => if okI x5 100 then jn ((fun (y17 : Int64) => lt1 (x5 + (1 : Int32)) fun (x18 : Int32) => (self3 y17 x18)) : Int64 → Option Int32) fun j7 => if (gI mem (g0 + 4) (ix x5)) < 0 then (if okI x5 100 then if (gI mem (g0 + 4) (ix x5)) = (-1 : Int32) then (lt1 (y4 ^^^ (1 : Int64)) fun (y12 : Int64) => (j7 y12)) else if okI x5 100 then if (gI mem (g0 + 4) (ix x5)) = (-2 : Int32) then (jn ((fun (x10 : Int32) => lt1 ((y4 >>> ((1 : Int32).toInt64 &&& 63)) &&& (x10.toInt64)) fun (y11 : Int64) => (j7 y11)) : Int32 → Option Int32) fun j9 => if (lg_cmp y6 (1 : Int64)) = 0 then ((j9 (-1 : Int32))) else (j9 (-2 : Int32))) else lt1 ((y4 >>> ((1 : Int32).toInt64 &&& 63)) ||| y6) fun (y8 : Int64) => (j7 y8) else none else none) else if okI x5 100 then bd (f_X3_testHolds L mem (gI mem (g0 + 4) (ix x5))) fun (x13 : Int32) => jn ((fun (x15 : Int32) => lt1 ((y4 <<< ((1 : Int32).toInt64 &&& 63)) ||| (x15.toInt64)) fun (y16 : Int64) => (j7 y16)) : Int32 → Option Int32) fun j14 => if x13 = 0 then ((j14 (0 : Int32))) else (j14 (1 : Int32)) else none else none
def f_X3_holds (L : List Nat) (mem : gMem) (g0 : Nat) (p0 : Int32) (p1 : Int32) : Option Int32 := lt1 (if (0 : Int32) < p0 then p0 else (0 : Int32)) fun (x1 : Int32) => jn ((fun (y19 : Int64) => if (lg_cmp (y19 &&& (1 : Int64)) (1 : Int64)) = 0 then (some (1 : Int32)) else some (0 : Int32)) : Int64 → Option Int32) fun j2 => lq2 (s_X3_holds_10 p1 j2 mem g0 L) 1000 (0 : Int64) x1
set_option maxRecDepth 100000 in
set_option maxHeartbeats 4000000 in
theorem c_X3_holds {l : Launch} {E : State → Prop} {D : va_G} {cy : Nat → ClassId} {ad : Nat → Nat} {L : List Nat} {mem : gMem} {g0 : Nat} {p0 : Int32} {p1 : Int32} {rv : Int32} (hk : gOk ad L) (hL : ∀ o ∈ LX0, o ∈ L) (hE : gEok ad L E) (hg0 : isN g0) (h : f_X3_holds L mem g0 p0 p1 = some rv) : gMet l yX3_holds cX3_holds 9 (some .boolean) 1 24 E D cy shX ad L [.ref (ad g0), .int p0, .int p1, .ref (ad 17)] mem mem (some (.int rv)) := by
  refine g_go (own := RX3) (by decide +kernel) rfl hE (Nat.le_of_ble_eq_true rfl) ?_
  intro p e s m args below meth c R Q hargs hR hQ hEs hC hr hX H locs ls hH hl
  have hF := gF_of hk
  have hl : lv_has ls 9 [(0, .ref (ad g0)), (1, .int p0), (2, .int p1), (3, .ref (ad 17))] := hl
  refine lv_lconst (v := 0) hC.x hC.b dX3_holds_0 rfl ?_
  refine lv_lstore (lv' := [(4, .long (0 : Int64)), (0, .ref (ad g0)), (1, .int p0), (2, .int p1), (3, .ref (ad 17))]) hC.x hC.b dX3_holds_1 hl (by decide) rfl (fun ls hl => ?_)
  refine lv_iconst (v := 0) hC.x hC.b dX3_holds_3 rfl ?_
  refine lv_iload_n hC.x hC.b dX3_holds_4 rfl (lv_at hl 2 rfl) ?_
  refine m_max hC hl.1 kw325 kw309 kw310 kw311 (rmM hR (by decide) (Nat.le_of_ble_eq_true rfl)) dX3_holds_5 ?_
  refine n_i h (fun x1 h => ?_)
  refine lv_istore (lv' := [(6, .int x1), (4, .long (0 : Int64)), (0, .ref (ad g0)), (1, .int p0), (2, .int p1), (3, .ref (ad 17))]) hC.x hC.b dX3_holds_8 hl (by decide) rfl (fun ls hl => ?_)
  obtain ⟨j2, ej2, h⟩ := jn_e h
  have hj2 : ∀ (y19 : Int64) (H : Heap) (locs : List Loc) (ls : Array Slot), (j2 y19) = some rv → gH D cy shX ad L (gA ad L) s.heap mem H locs → lv_has ls 9 [(4, .long y19)] → W p l e R s m args below meth c H locs 0 0 Q (F0 m 140 ls []) := by
    intro y19 H locs ls h hH hl
    have h := ap1 ej2 h
    refine lv_lload hC.x hC.b dX3_holds_140 (lv_at hl 0 rfl) ?_
    refine lv_lconst (v := 1) hC.x hC.b dX3_holds_142 rfl ?_
    refine lv_land hC.x hC.b dX3_holds_143 ?_
    refine lv_lconst (v := 1) hC.x hC.b dX3_holds_144 rfl ?_
    refine W.lcmp hC.x hC.b dX3_holds_145 ?_
    refine b_if_ne (tgt := 153) hC dX3_holds_146 (by decide) h (fun h => ?_) (fun h => ?_)
    · refine lv_iconst (v := 0) hC.x hC.b dX3_holds_153 rfl ?_
      rw [hQ]
      exact e_nr hC hr rfl hH h dX3_holds_154
    · refine lv_iconst (v := 1) hC.x hC.b dX3_holds_149 rfl ?_
      refine lv_goto (tgt := 154) hC.x hC.b dX3_holds_150 (by decide) ?_
      rw [hQ]
      exact e_nr hC hr rfl hH h dX3_holds_154
  clear ej2
  have hl3 : ∀ (n : Nat) (y4 : Int64) (x5 : Int32) (H : Heap) (locs : List Loc) (ls : Array Slot), lq2 (s_X3_holds_10 p1 j2 mem g0 L) n y4 x5 = some rv → gH D cy shX ad L (gA ad L) s.heap mem H locs → lv_has ls 9 [(0, .ref (ad g0)), (2, .int p1), (3, .ref (ad 17)), (4, .long y4), (6, .int x5)] → W p l e R s m args below meth c H locs 0 0 Q (F0 m 10 ls []) := by
    intro n
    induction n with
    | zero => intro y4 x5 H locs ls h _ _; exact lq2_0 h
    | succ n ih3 =>
      intro y4 x5 H locs ls h hH hl
      obtain ⟨self3, es3, h⟩ := lq2_s h
      refine lv_iload hC.x hC.b dX3_holds_10 (lv_at hl 4 rfl) ?_
      refine lv_iload_n hC.x hC.b dX3_holds_12 rfl (lv_at hl 1 rfl) ?_
      refine b_ic_ge (tgt := 140) hC dX3_holds_13 (by decide) h (fun h => ?_) (fun h => ?_)
      · exact hj2 y4 H locs ls h hH (lv_sub hl [3] rfl)
      · refine lv_iload hC.x hC.b dX3_holds_16 (lv_at hl 4 rfl) ?_
        refine lv_bipush (v := 100) hC.x hC.b dX3_holds_18 rfl ?_
        refine b_ic_ge (tgt := 140) hC dX3_holds_20 (by decide) h (fun h => ?_) (fun h => ?_)
        · exact hj2 y4 H locs ls h hH (lv_sub hl [3] rfl)
        · refine lv_lload hC.x hC.b dX3_holds_23 (lv_at hl 3 rfl) ?_
          refine lv_lconst (v := 1) hC.x hC.b dX3_holds_25 rfl ?_
          refine lv_land hC.x hC.b dX3_holds_26 ?_
          refine n_l h (fun y6 h => ?_)
          refine lv_lstore (lv' := [(7, .long y6), (0, .ref (ad g0)), (2, .int p1), (3, .ref (ad 17)), (4, .long y4), (6, .int x5)]) hC.x hC.b dX3_holds_27 hl (by decide) rfl (fun ls hl => ?_)
          refine lv_aload_n hC.x hC.b dX3_holds_29 rfl (lv_at hl 1 rfl) ?_
          refine r_getc (z := (g0 + 4)) hC hH fl_X3_21_3 (hL _ (mN hg0 (k := 0) (by decide))) (sN0 hg0) rfl dX3_holds_30 ?_
          refine lv_iload hC.x hC.b dX3_holds_33 (lv_at hl 5 rfl) ?_
          refine r_iald hC hH (hL _ (mN hg0 (k := 4) (by decide))) (sN4 hg0) h dX3_holds_35 (fun h => ?_)
          obtain ⟨j7, ej7, h⟩ := jn_e h
          have hj7 : ∀ (y17 : Int64) (H : Heap) (locs : List Loc) (ls : Array Slot), (j7 y17) = some rv → gH D cy shX ad L (gA ad L) s.heap mem H locs → lv_has ls 9 [(0, .ref (ad g0)), (2, .int p1), (3, .ref (ad 17)), (4, .long y17), (6, .int x5)] → W p l e R s m args below meth c H locs 0 0 Q (F0 m 134 ls []) := by
            intro y17 H locs ls h hH hl
            have h := ap1 ej7 h
            refine i_inc (lv' := fun x18 => [(6, .int x18), (0, .ref (ad g0)), (2, .int p1), (3, .ref (ad 17)), (4, .long y17)]) hC dX3_holds_134 hl (k := 4) rfl (by decide) (fun _ => rfl) (z := 1) rfl h (fun x18 ls h hl => ?_)
            refine lv_goto (tgt := 10) hC.x hC.b dX3_holds_137 (by decide) ?_
            exact ih3 y17 x18 H locs ls (ap2 es3 h) hH (lv_sub hl [1, 2, 3, 4, 0] rfl)
          clear ej7
          refine b_if_lt (tgt := 69) hC dX3_holds_36 (by decide) h (fun h => ?_) (fun h => ?_)
          · refine lv_aload_n hC.x hC.b dX3_holds_69 rfl (lv_at hl 1 rfl) ?_
            refine r_getc (z := (g0 + 4)) hC hH fl_X3_21_3 (hL _ (mN hg0 (k := 0) (by decide))) (sN0 hg0) rfl dX3_holds_70 ?_
            refine lv_iload hC.x hC.b dX3_holds_73 (lv_at hl 5 rfl) ?_
            refine r_iald hC hH (hL _ (mN hg0 (k := 4) (by decide))) (sN4 hg0) h dX3_holds_75 (fun h => ?_)
            refine lv_iconst (v := -1) hC.x hC.b dX3_holds_76 rfl ?_
            refine b_ic_ne (tgt := 89) hC dX3_holds_77 (by decide) h (fun h => ?_) (fun h => ?_)
            · refine lv_aload_n hC.x hC.b dX3_holds_89 rfl (lv_at hl 1 rfl) ?_
              refine r_getc (z := (g0 + 4)) hC hH fl_X3_21_3 (hL _ (mN hg0 (k := 0) (by decide))) (sN0 hg0) rfl dX3_holds_90 ?_
              refine lv_iload hC.x hC.b dX3_holds_93 (lv_at hl 5 rfl) ?_
              refine r_iald hC hH (hL _ (mN hg0 (k := 4) (by decide))) (sN4 hg0) h dX3_holds_95 (fun h => ?_)
              refine lv_bipush (v := -2) hC.x hC.b dX3_holds_96 rfl ?_
              refine b_ic_ne (tgt := 125) hC dX3_holds_98 (by decide) h (fun h => ?_) (fun h => ?_)
              · refine lv_lload hC.x hC.b dX3_holds_125 (lv_at hl 4 rfl) ?_
                refine lv_iconst (v := 1) hC.x hC.b dX3_holds_127 rfl ?_
                refine lv_lshr hC.x hC.b dX3_holds_128 rfl ?_
                refine lv_lload hC.x hC.b dX3_holds_129 (lv_at hl 0 rfl) ?_
                refine lv_lor hC.x hC.b dX3_holds_131 ?_
                refine n_l h (fun y8 h => ?_)
                refine lv_lstore (lv' := [(4, .long y8), (7, .long y6), (0, .ref (ad g0)), (2, .int p1), (3, .ref (ad 17)), (6, .int x5)]) hC.x hC.b dX3_holds_132 hl (by decide) rfl (fun ls hl => ?_)
                exact hj7 y8 H locs ls h hH (lv_sub hl [2, 3, 4, 0, 5] rfl)
              · refine lv_lload hC.x hC.b dX3_holds_101 (lv_at hl 4 rfl) ?_
                refine lv_iconst (v := 1) hC.x hC.b dX3_holds_103 rfl ?_
                refine lv_lshr hC.x hC.b dX3_holds_104 rfl ?_
                refine lv_lload hC.x hC.b dX3_holds_105 (lv_at hl 0 rfl) ?_
                refine lv_lconst (v := 1) hC.x hC.b dX3_holds_107 rfl ?_
                refine W.lcmp hC.x hC.b dX3_holds_108 ?_
                obtain ⟨j9, ej9, h⟩ := jn_e h
                have hj9 : ∀ (x10 : Int32) (H : Heap) (locs : List Loc) (ls : Array Slot), (j9 x10) = some rv → gH D cy shX ad L (gA ad L) s.heap mem H locs → lv_has ls 9 [(0, .ref (ad g0)), (2, .int p1), (3, .ref (ad 17)), (6, .int x5)] → W p l e R s m args below meth c H locs 0 0 Q (F0 m 118 ls [.int x10, .long (y4 >>> ((1 : Int32).toInt64 &&& 63))]) := by
                  intro x10 H locs ls h hH hl
                  have h := ap1 ej9 h
                  refine lv_i2l hC.x hC.b dX3_holds_118 rfl ?_
                  refine lv_land hC.x hC.b dX3_holds_119 ?_
                  refine n_l h (fun y11 h => ?_)
                  refine lv_lstore (lv' := [(4, .long y11), (0, .ref (ad g0)), (2, .int p1), (3, .ref (ad 17)), (6, .int x5)]) hC.x hC.b dX3_holds_120 hl (by decide) rfl (fun ls hl => ?_)
                  refine lv_goto (tgt := 134) hC.x hC.b dX3_holds_122 (by decide) ?_
                  exact hj7 y11 H locs ls h hH (lv_sub hl [1, 2, 3, 0, 4] rfl)
                clear ej9
                refine b_if_ne (tgt := 116) hC dX3_holds_109 (by decide) h (fun h => ?_) (fun h => ?_)
                · refine lv_bipush (v := -2) hC.x hC.b dX3_holds_116 rfl ?_
                  exact hj9 (-2 : Int32) H locs ls h hH (lv_sub hl [1, 2, 3, 5] rfl)
                · refine lv_iconst (v := -1) hC.x hC.b dX3_holds_112 rfl ?_
                  refine lv_goto (tgt := 118) hC.x hC.b dX3_holds_113 (by decide) ?_
                  exact hj9 (-1 : Int32) H locs ls h hH (lv_sub hl [1, 2, 3, 5] rfl)
            · refine lv_lload hC.x hC.b dX3_holds_80 (lv_at hl 4 rfl) ?_
              refine lv_lconst (v := 1) hC.x hC.b dX3_holds_82 rfl ?_
              refine lv_lxor hC.x hC.b dX3_holds_83 ?_
              refine n_l h (fun y12 h => ?_)
              refine lv_lstore (lv' := [(4, .long y12), (7, .long y6), (0, .ref (ad g0)), (2, .int p1), (3, .ref (ad 17)), (6, .int x5)]) hC.x hC.b dX3_holds_84 hl (by decide) rfl (fun ls hl => ?_)
              refine lv_goto (tgt := 134) hC.x hC.b dX3_holds_86 (by decide) ?_
              exact hj7 y12 H locs ls h hH (lv_sub hl [2, 3, 4, 0, 5] rfl)
          · refine lv_lload hC.x hC.b dX3_holds_39 (lv_at hl 4 rfl) ?_
            refine lv_iconst (v := 1) hC.x hC.b dX3_holds_41 rfl ?_
            refine lv_lshl hC.x hC.b dX3_holds_42 rfl ?_
            refine lv_aload_n hC.x hC.b dX3_holds_43 rfl (lv_at hl 1 rfl) ?_
            refine r_getc (z := (g0 + 4)) hC hH fl_X3_21_3 (hL _ (mN hg0 (k := 0) (by decide))) (sN0 hg0) rfl dX3_holds_44 ?_
            refine lv_iload hC.x hC.b dX3_holds_47 (lv_at hl 5 rfl) ?_
            refine r_iald hC hH (hL _ (mN hg0 (k := 4) (by decide))) (sN4 hg0) h dX3_holds_49 (fun h => ?_)
            refine lv_aload_n hC.x hC.b dX3_holds_50 rfl (lv_at hl 3 rfl) ?_
            obtain ⟨x13, hf13, h⟩ := bd_e h
            refine c_S1 (As := [.int (gI mem (g0 + 4) (ix x5)), .ref (ad 17)]) (rest := [.long (y4 <<< ((1 : Int32).toInt64 &&& 63))]) hC hX hE.2.1 hF hH (c_X3_testHolds (l := l) hk hL hE hf13) kw326 kw327 kw38 kw328 a_X3_testHolds.1 a_X3_testHolds.2 rfl hl.1 (rmk hR (by decide) (by decide)) (Nat.le_of_ble_eq_true rfl) dX3_holds_51 (fun H locs hH => ?_)
            obtain ⟨j14, ej14, h⟩ := jn_e h
            have hj14 : ∀ (x15 : Int32) (H : Heap) (locs : List Loc) (ls : Array Slot), (j14 x15) = some rv → gH D cy shX ad L (gA ad L) s.heap mem H locs → lv_has ls 9 [(0, .ref (ad g0)), (2, .int p1), (3, .ref (ad 17)), (6, .int x5)] → W p l e R s m args below meth c H locs 0 0 Q (F0 m 62 ls [.int x15, .long (y4 <<< ((1 : Int32).toInt64 &&& 63))]) := by
              intro x15 H locs ls h hH hl
              have h := ap1 ej14 h
              refine lv_i2l hC.x hC.b dX3_holds_62 rfl ?_
              refine lv_lor hC.x hC.b dX3_holds_63 ?_
              refine n_l h (fun y16 h => ?_)
              refine lv_lstore (lv' := [(4, .long y16), (0, .ref (ad g0)), (2, .int p1), (3, .ref (ad 17)), (6, .int x5)]) hC.x hC.b dX3_holds_64 hl (by decide) rfl (fun ls hl => ?_)
              refine lv_goto (tgt := 134) hC.x hC.b dX3_holds_66 (by decide) ?_
              exact hj7 y16 H locs ls h hH (lv_sub hl [1, 2, 3, 0, 4] rfl)
            clear ej14
            refine b_if_eq (tgt := 61) hC dX3_holds_54 (by decide) h (fun h => ?_) (fun h => ?_)
            · refine lv_iconst (v := 0) hC.x hC.b dX3_holds_61 rfl ?_
              exact hj14 (0 : Int32) H locs ls h hH (lv_sub hl [1, 2, 3, 5] rfl)
            · refine lv_iconst (v := 1) hC.x hC.b dX3_holds_57 rfl ?_
              refine lv_goto (tgt := 62) hC.x hC.b dX3_holds_58 (by decide) ?_
              exact hj14 (1 : Int32) H locs ls h hH (lv_sub hl [1, 2, 3, 5] rfl)
  exact hl3 _ (0 : Int64) x1 H locs ls h hH (lv_sub hl [2, 4, 5, 1, 0] rfl)
theorem a_X4_sign : noMH yX4_sign.cls ∧ arity yX4_sign.desc 0 := by decide +kernel
theorem pl_X4_19_4 : gPl RX4 19 4 2 "I" := ⟨RX4, TX4, 4, tyX4, "OnTiptoe$Reader", rfl, inW4, tyX4_ok, nmX4, by decide, kw458, Or.inl rfl, rfl, rfl⟩
def f_X4_skip (L : List Nat) (mem : gMem) (p0 : Int32) : Option (Int32 × gMem) := bd (f_X4_sign L mem) fun (x1 : Int32) => jn ((fun (x3 : Int32) => if x3 = 0 then (if isB x3 then some (x3, mem) else none) else lt1 (gsI mem 30 2 ((gI mem 30 2) + (1 : Int32))) fun (m4 : gMem) => if isB x3 then some (x3, m4) else none) : Int32 → Option (Int32 × gMem)) fun j2 => if x1 = p0 then ((j2 (1 : Int32))) else (j2 (0 : Int32))
set_option maxRecDepth 100000 in
set_option maxHeartbeats 4000000 in
theorem c_X4_skip {l : Launch} {E : State → Prop} {D : va_G} {cy : Nat → ClassId} {ad : Nat → Nat} {L : List Nat} {mem : gMem} {p0 : Int32} {rv : Int32} {memz : gMem} (hk : gOk ad L) (hL : ∀ o ∈ LX0, o ∈ L) (hE : gEok ad L E)  (h : f_X4_skip L mem p0 = some (rv, memz)) : gMet l yX4_skip cX4_skip 3 (some .boolean) 1 20 E D cy shX ad L [.ref (ad 30), .int p0] mem memz (some (.int rv)) := by
  refine g_go (own := RX4) (by decide +kernel) rfl hE (Nat.le_of_ble_eq_true rfl) ?_
  intro p e s m args below meth c R Q hargs hR hQ hEs hC hr hX H locs ls hH hl
  have hF := gF_of hk
  have hl : lv_has ls 3 [(0, .ref (ad 30)), (1, .int p0)] := hl
  refine lv_aload_n hC.x hC.b dX4_skip_0 rfl (lv_at hl 0 rfl) ?_
  obtain ⟨x1, hf1, h⟩ := bd_e h
  refine c_V1 (As := []) (rest := []) (o := 30) (q := (RX4, TX4, 4)) hC hX hE.2.1 hF hH (c_X4_sign (l := l) hk hL hE hf1) kw469 kw470 kw471 kw24 kw472 a_X4_sign.1 a_X4_sign.2 (hL _ mX30) sX30 rfl rfl hl.1 (rmk hR (by decide) (by decide)) (Nat.le_of_ble_eq_true rfl) dX4_skip_1 (fun H locs hH => ?_)
  refine lv_iload_n hC.x hC.b dX4_skip_4 rfl (lv_at hl 1 rfl) ?_
  obtain ⟨j2, ej2, h⟩ := jn_e h
  have hj2 : ∀ (x3 : Int32) (H : Heap) (locs : List Loc) (ls : Array Slot), (j2 x3) = some (rv, memz) → gH D cy shX ad L (gA ad L) s.heap mem H locs → lv_has ls 3 [(0, .ref (ad 30))] → W p l e R s m args below meth c H locs 0 0 Q (F0 m 13 ls [.int x3]) := by
    intro x3 H locs ls h hH hl
    have h := ap1 ej2 h
    refine lv_istore_n (lv' := [(2, .int x3), (0, .ref (ad 30))]) hC.x hC.b dX4_skip_13 rfl hl (by decide) rfl (fun ls hl => ?_)
    refine lv_iload_n hC.x hC.b dX4_skip_14 rfl (lv_at hl 0 rfl) ?_
    refine b_if_eq (tgt := 28) hC dX4_skip_15 (by decide) h (fun h => ?_) (fun h => ?_)
    · refine lv_iload_n hC.x hC.b dX4_skip_28 rfl (lv_at hl 0 rfl) ?_
      rw [hQ]
      exact e_z hC hr hH h dX4_skip_29
    · refine lv_aload_n hC.x hC.b dX4_skip_18 rfl (lv_at hl 1 rfl) ?_
      refine lv_dup hC.x hC.b dX4_skip_19 rfl ?_
      refine r_geti hC hH fl_X4_19_4 (hL _ mX30) sX30 rfl dX4_skip_20 ?_
      refine lv_iconst (v := 1) hC.x hC.b dX4_skip_23 rfl ?_
      refine lv_iadd hC.x hC.b dX4_skip_24 ?_
      refine r_puti hC hF hH pl_X4_19_4 (hL _ mX30) sX30 rfl h dX4_skip_25 (fun m4 H locs h hH => ?_)
      refine lv_iload_n hC.x hC.b dX4_skip_28 rfl (lv_at hl 0 rfl) ?_
      rw [hQ]
      exact e_z hC hr hH h dX4_skip_29
  clear ej2
  refine b_ic_ne (tgt := 12) hC dX4_skip_5 (by decide) h (fun h => ?_) (fun h => ?_)
  · refine lv_iconst (v := 0) hC.x hC.b dX4_skip_12 rfl ?_
    exact hj2 (0 : Int32) H locs ls h hH (lv_sub hl [0] rfl)
  · refine lv_iconst (v := 1) hC.x hC.b dX4_skip_8 rfl ?_
    refine lv_goto (tgt := 13) hC.x hC.b dX4_skip_9 (by decide) ?_
    exact hj2 (1 : Int32) H locs ls h hH (lv_sub hl [0] rfl)
def s_X4_readNumber_4 (L : List Nat) (self1 : Int32 → Int32 → gMem → Option (Int32 × gMem)) (x2 : Int32) (x3 : Int32) (m4 : gMem) : Option (Int32 × gMem) := if (2 : Int32) ≤ x3 then (some (x2, m4)) else bd (f_X4_sign L m4) fun (x5 : Int32) => if x5 < (48 : Int32) then (some (x2, m4)) else bd (f_X4_sign L m4) fun (x6 : Int32) => if (57 : Int32) < x6 then (some (x2, m4)) else bd (f_X4_sign L m4) fun (x7 : Int32) => lt1 ((((if (0 : Int32) < x2 then x2 else (0 : Int32)) * (10 : Int32)) + x7) - (48 : Int32)) fun (x8 : Int32) => lt1 (gsI m4 30 2 ((gI m4 30 2) + (1 : Int32))) fun (m9 : gMem) => lt1 (x3 + (1 : Int32)) fun (x10 : Int32) => (self1 x8 x10 m9)
def f_X4_readNumber (L : List Nat) (mem : gMem) : Option (Int32 × gMem) := lq3 (s_X4_readNumber_4 L) 1000 (-1 : Int32) (0 : Int32) mem
set_option maxRecDepth 100000 in
set_option maxHeartbeats 4000000 in
theorem c_X4_readNumber {l : Launch} {E : State → Prop} {D : va_G} {cy : Nat → ClassId} {ad : Nat → Nat} {L : List Nat} {mem : gMem} {rv : Int32} {memz : gMem} (hk : gOk ad L) (hL : ∀ o ∈ LX0, o ∈ L) (hE : gEok ad L E)  (h : f_X4_readNumber L mem = some (rv, memz)) : gMet l yX4_readNumber cX4_readNumber 3 (some .int) 1 21 E D cy shX ad L [.ref (ad 30)] mem memz (some (.int rv)) := by
  refine g_go (own := RX4) (by decide +kernel) rfl hE (Nat.le_of_ble_eq_true rfl) ?_
  intro p e s m args below meth c R Q hargs hR hQ hEs hC hr hX H locs ls hH hl
  have hF := gF_of hk
  have hl : lv_has ls 3 [(0, .ref (ad 30))] := hl
  refine lv_iconst (v := -1) hC.x hC.b dX4_readNumber_0 rfl ?_
  refine lv_istore_n (lv' := [(1, .int (-1 : Int32)), (0, .ref (ad 30))]) hC.x hC.b dX4_readNumber_1 rfl hl (by decide) rfl (fun ls hl => ?_)
  refine lv_iconst (v := 0) hC.x hC.b dX4_readNumber_2 rfl ?_
  refine lv_istore_n (lv' := [(2, .int (0 : Int32)), (1, .int (-1 : Int32)), (0, .ref (ad 30))]) hC.x hC.b dX4_readNumber_3 rfl hl (by decide) rfl (fun ls hl => ?_)
  have hl1 : ∀ (n : Nat) (x2 : Int32) (x3 : Int32) (m4 : gMem) (H : Heap) (locs : List Loc) (ls : Array Slot), lq3 (s_X4_readNumber_4 L) n x2 x3 m4 = some (rv, memz) → gH D cy shX ad L (gA ad L) s.heap m4 H locs → lv_has ls 3 [(0, .ref (ad 30)), (1, .int x2), (2, .int x3)] → W p l e R s m args below meth c H locs 0 0 Q (F0 m 4 ls []) := by
    intro n
    induction n with
    | zero => intro x2 x3 m4 H locs ls h _ _; exact lq3_0 h
    | succ n ih1 =>
      intro x2 x3 m4 H locs ls h hH hl
      obtain ⟨self1, es1, h⟩ := lq3_s h
      refine lv_iload_n hC.x hC.b dX4_readNumber_4 rfl (lv_at hl 2 rfl) ?_
      refine lv_iconst (v := 2) hC.x hC.b dX4_readNumber_5 rfl ?_
      refine b_ic_ge (tgt := 60) hC dX4_readNumber_6 (by decide) h (fun h => ?_) (fun h => ?_)
      · refine lv_iload_n hC.x hC.b dX4_readNumber_60 rfl (lv_at hl 1 rfl) ?_
        rw [hQ]
        exact e_i hC hr hH h dX4_readNumber_61
      · refine lv_aload_n hC.x hC.b dX4_readNumber_9 rfl (lv_at hl 0 rfl) ?_
        obtain ⟨x5, hf5, h⟩ := bd_e h
        refine c_V1 (As := []) (rest := []) (o := 30) (q := (RX4, TX4, 4)) hC hX hE.2.1 hF hH (c_X4_sign (l := l) hk hL hE hf5) kw469 kw470 kw471 kw24 kw472 a_X4_sign.1 a_X4_sign.2 (hL _ mX30) sX30 rfl rfl hl.1 (rmk hR (by decide) (by decide)) (Nat.le_of_ble_eq_true rfl) dX4_readNumber_10 (fun H locs hH => ?_)
        refine lv_bipush (v := 48) hC.x hC.b dX4_readNumber_13 rfl ?_
        refine b_ic_lt (tgt := 60) hC dX4_readNumber_15 (by decide) h (fun h => ?_) (fun h => ?_)
        · refine lv_iload_n hC.x hC.b dX4_readNumber_60 rfl (lv_at hl 1 rfl) ?_
          rw [hQ]
          exact e_i hC hr hH h dX4_readNumber_61
        · refine lv_aload_n hC.x hC.b dX4_readNumber_18 rfl (lv_at hl 0 rfl) ?_
          obtain ⟨x6, hf6, h⟩ := bd_e h
          refine c_V1 (As := []) (rest := []) (o := 30) (q := (RX4, TX4, 4)) hC hX hE.2.1 hF hH (c_X4_sign (l := l) hk hL hE hf6) kw469 kw470 kw471 kw24 kw472 a_X4_sign.1 a_X4_sign.2 (hL _ mX30) sX30 rfl rfl hl.1 (rmk hR (by decide) (by decide)) (Nat.le_of_ble_eq_true rfl) dX4_readNumber_19 (fun H locs hH => ?_)
          refine lv_bipush (v := 57) hC.x hC.b dX4_readNumber_22 rfl ?_
          refine b_ic_gt (tgt := 60) hC dX4_readNumber_24 (by decide) h (fun h => ?_) (fun h => ?_)
          · refine lv_iload_n hC.x hC.b dX4_readNumber_60 rfl (lv_at hl 1 rfl) ?_
            rw [hQ]
            exact e_i hC hr hH h dX4_readNumber_61
          · refine lv_iconst (v := 0) hC.x hC.b dX4_readNumber_27 rfl ?_
            refine lv_iload_n hC.x hC.b dX4_readNumber_28 rfl (lv_at hl 1 rfl) ?_
            refine m_max hC hl.1 kw534 kw309 kw310 kw311 (rmM hR (by decide) (Nat.le_of_ble_eq_true rfl)) dX4_readNumber_29 ?_
            refine lv_bipush (v := 10) hC.x hC.b dX4_readNumber_32 rfl ?_
            refine lv_imul hC.x hC.b dX4_readNumber_34 ?_
            refine lv_aload_n hC.x hC.b dX4_readNumber_35 rfl (lv_at hl 0 rfl) ?_
            obtain ⟨x7, hf7, h⟩ := bd_e h
            refine c_V1 (As := []) (rest := [.int ((if (0 : Int32) < x2 then x2 else (0 : Int32)) * (10 : Int32))]) (o := 30) (q := (RX4, TX4, 4)) hC hX hE.2.1 hF hH (c_X4_sign (l := l) hk hL hE hf7) kw469 kw470 kw471 kw24 kw472 a_X4_sign.1 a_X4_sign.2 (hL _ mX30) sX30 rfl rfl hl.1 (rmk hR (by decide) (by decide)) (Nat.le_of_ble_eq_true rfl) dX4_readNumber_36 (fun H locs hH => ?_)
            refine lv_iadd hC.x hC.b dX4_readNumber_39 ?_
            refine lv_bipush (v := 48) hC.x hC.b dX4_readNumber_40 rfl ?_
            refine lv_isub hC.x hC.b dX4_readNumber_42 ?_
            refine n_i h (fun x8 h => ?_)
            refine lv_istore_n (lv' := [(1, .int x8), (0, .ref (ad 30)), (2, .int x3)]) hC.x hC.b dX4_readNumber_43 rfl hl (by decide) rfl (fun ls hl => ?_)
            refine lv_aload_n hC.x hC.b dX4_readNumber_44 rfl (lv_at hl 1 rfl) ?_
            refine lv_dup hC.x hC.b dX4_readNumber_45 rfl ?_
            refine r_geti hC hH fl_X4_19_4 (hL _ mX30) sX30 rfl dX4_readNumber_46 ?_
            refine lv_iconst (v := 1) hC.x hC.b dX4_readNumber_49 rfl ?_
            refine lv_iadd hC.x hC.b dX4_readNumber_50 ?_
            refine r_puti hC hF hH pl_X4_19_4 (hL _ mX30) sX30 rfl h dX4_readNumber_51 (fun m9 H locs h hH => ?_)
            refine i_inc (lv' := fun x10 => [(2, .int x10), (1, .int x8), (0, .ref (ad 30))]) hC dX4_readNumber_54 hl (k := 2) rfl (by decide) (fun _ => rfl) (z := 1) rfl h (fun x10 ls h hl => ?_)
            refine lv_goto (tgt := 4) hC.x hC.b dX4_readNumber_57 (by decide) ?_
            exact ih1 x8 x10 m9 H locs ls (ap3 es1 h) hH (lv_sub hl [2, 1, 0] rfl)
  exact hl1 _ (-1 : Int32) (0 : Int32) mem H locs ls h hH (lv_sub hl [2, 1, 0] rfl)
theorem a_X1_noise : noMH yX1_noise.cls ∧ arity yX1_noise.desc 2 := by decide +kernel
theorem u_X7_7 {p : Program} {l : Launch} {e : Env} {R : Room} {s : State} {m : MethodId} {args : Array Value} {below : List Frame} {meth : Method} {c : Code} {H : Heap} {locs : List Loc} {cells slots : Nat} {Q : State → Prop} {cc : ByteArray} {nL : Nat} {pc : Nat} {ls : Array Slot} {rest As : List Value} {D : va_G} {cy : Nat → ClassId} {ad : Nat → Nat} {L : List Nat} {A : Nat → Prop} {mem mem' : gMem} {E : State → Prop} {fr lo w : Nat} {v : Value} (hC : gC p s m args meth c cc nL RX7 D cy) (hX : gX A s E) (hB : eBl E) (hF : gF ad L A) (hH : gH D cy shX ad L A s.heap mem H locs) (hM : gMet l yX1_noise cX1_noise 3 (some .int) fr lo E D cy shX ad L (.ref (ad w) :: As) mem mem' (some v)) (hw : wok L w) (hk : wkd w = 4) (hn : As.length = 2) (hls : ls.size = nL) (hR : fr + 1 ≤ R.frames ∧ 8 + (3 + 11) + lo ≤ R.locals ∧ cells ≤ R.cells ∧ slots ≤ R.slots) (hW : (rest.map fun v => v.category).sum ≤ 8) (hdg : decode cc pc = .ok (.invokespecial 7, 3))
    (kk : ∀ (H1 : Heap) (locs1 : List Loc), gH D cy shX ad L A s.heap mem' H1 locs1 → W p l e R s m args below meth c H1 locs1 cells slots Q (F0 m (pc + 3) ls (v :: rest))) : W p l e R s m args below meth c H locs cells slots Q (F0 m pc ls (As.reverse ++ .ref (ad w) :: rest)) := by
  rcases hk with hk
  · exact c_SU1 (q := (RX7, TX7, 6)) hC hX hB hF hH hM kw356 kw357 kw358 kw204 kw345 kw344 (by decide +kernel) a_X1_noise.2 hw.2.2.2.1 (sWk hw hk) rfl hn hls hR hW hdg kk
def f_X7_noise (L : List Nat) (mem : gMem) (w0 : Nat) (p0 : Int32) (p1 : Int32) : Option Int32 := bd (f_X1_noise L mem w0 p0 p1) fun (x1 : Int32) => some (x1 + (p1 - p1 / (3 : Int32) * (3 : Int32)))
set_option maxRecDepth 100000 in
set_option maxHeartbeats 4000000 in
theorem c_X7_noise {l : Launch} {E : State → Prop} {D : va_G} {cy : Nat → ClassId} {ad : Nat → Nat} {L : List Nat} {mem : gMem} {w0 : Nat} {p0 : Int32} {p1 : Int32} {rv : Int32} (hk : gOk ad L) (hL : ∀ o ∈ LX0, o ∈ L) (hE : gEok ad L E) (hw0 : wok L w0) (hkd : wkd w0 = 4) (h : f_X7_noise L mem w0 p0 p1 = some rv) : gMet l yX7_noise cX7_noise 3 (some .int) 1 22 E D cy shX ad L [.ref (ad w0), .int p0, .int p1] mem mem (some (.int rv)) := by
  refine g_go (own := RX7) (by decide +kernel) rfl hE (Nat.le_of_ble_eq_true rfl) ?_
  intro p e s m args below meth c R Q hargs hR hQ hEs hC hr hX H locs ls hH hl
  have hF := gF_of hk
  have hl : lv_has ls 3 [(0, .ref (ad w0)), (1, .int p0), (2, .int p1)] := hl
  refine lv_aload_n hC.x hC.b dX7_noise_0 rfl (lv_at hl 0 rfl) ?_
  refine lv_iload_n hC.x hC.b dX7_noise_1 rfl (lv_at hl 1 rfl) ?_
  refine lv_iload_n hC.x hC.b dX7_noise_2 rfl (lv_at hl 2 rfl) ?_
  obtain ⟨x1, hf1, h⟩ := bd_e h
  refine u_X7_7 (As := [.int p0, .int p1]) (rest := []) hC hX hE.2.1 hF hH (c_X1_noise (l := l) hk hL hE hw0 (by have := hkd; omega) hf1) hw0 hkd rfl hl.1 (rmk hR (by decide) (by decide)) (Nat.le_of_ble_eq_true rfl) dX7_noise_3 (fun H locs hH => ?_)
  refine lv_iload_n hC.x hC.b dX7_noise_6 rfl (lv_at hl 2 rfl) ?_
  refine lv_iconst (v := 3) hC.x hC.b dX7_noise_7 rfl ?_
  refine lv_irem hC.x hC.b dX7_noise_8 (by decide) ?_
  refine lv_iadd hC.x hC.b dX7_noise_9 ?_
  rw [hQ]
  exact e_ir hC hr hH h dX7_noise_10
theorem a_X5_noise : noMH yX5_noise.cls ∧ arity yX5_noise.desc 2 := by decide +kernel
theorem u_X8_16 {p : Program} {l : Launch} {e : Env} {R : Room} {s : State} {m : MethodId} {args : Array Value} {below : List Frame} {meth : Method} {c : Code} {H : Heap} {locs : List Loc} {cells slots : Nat} {Q : State → Prop} {cc : ByteArray} {nL : Nat} {pc : Nat} {ls : Array Slot} {rest As : List Value} {D : va_G} {cy : Nat → ClassId} {ad : Nat → Nat} {L : List Nat} {A : Nat → Prop} {mem mem' : gMem} {E : State → Prop} {fr lo w : Nat} {v : Value} (hC : gC p s m args meth c cc nL RX8 D cy) (hX : gX A s E) (hB : eBl E) (hF : gF ad L A) (hH : gH D cy shX ad L A s.heap mem H locs) (hM : gMet l yX5_noise cX5_noise 3 (some .int) fr lo E D cy shX ad L (.ref (ad w) :: As) mem mem' (some v)) (hw : wok L w) (hk : wkd w = 6) (hn : As.length = 2) (hls : ls.size = nL) (hR : fr + 1 ≤ R.frames ∧ 8 + (3 + 11) + lo ≤ R.locals ∧ cells ≤ R.cells ∧ slots ≤ R.slots) (hW : (rest.map fun v => v.category).sum ≤ 8) (hdg : decode cc pc = .ok (.invokespecial 16, 3))
    (kk : ∀ (H1 : Heap) (locs1 : List Loc), gH D cy shX ad L A s.heap mem' H1 locs1 → W p l e R s m args below meth c H1 locs1 cells slots Q (F0 m (pc + 3) ls (v :: rest))) : W p l e R s m args below meth c H locs cells slots Q (F0 m pc ls (As.reverse ++ .ref (ad w) :: rest)) := by
  rcases hk with hk
  · exact c_SU1 (q := (RX8, TX8, 8)) hC hX hB hF hH hM kw362 kw363 kw364 kw210 kw350 kw349 (by decide +kernel) a_X5_noise.2 hw.2.2.2.1 (sWk hw hk) rfl hn hls hR hW hdg kk
theorem fl_X8_9_8 : gFl RX8 9 8 6 := ⟨RX8, TX8, 8, "OnTiptoe$Told", rfl, inW8, by decide, kw252, Or.inl rfl⟩
theorem a_J9_floorMod_7cf53 : noMH yJ9_floorMod_7cf53.cls ∧ arity yJ9_floorMod_7cf53.desc 2 := by decide +kernel
def f_X8_noise (L : List Nat) (mem : gMem) (w0 : Nat) (p0 : Int32) (p1 : Int32) : Option Int32 := bd (f_X5_noise L w0 p0 p1) fun (x1 : Int32) => bd (f_J9_floorMod_7cf53 p1 (4 : Int32)) fun (x2 : Int32) => if okI x2 4 then some (x1 + (gI mem (w0 + 2) (ix x2))) else none
set_option maxRecDepth 100000 in
set_option maxHeartbeats 4000000 in
theorem c_X8_noise {l : Launch} {E : State → Prop} {D : va_G} {cy : Nat → ClassId} {ad : Nat → Nat} {L : List Nat} {mem : gMem} {w0 : Nat} {p0 : Int32} {p1 : Int32} {rv : Int32} (hk : gOk ad L) (hL : ∀ o ∈ LX0, o ∈ L) (hE : gEok ad L E) (hw0 : wok L w0) (hkd : wkd w0 = 6) (h : f_X8_noise L mem w0 p0 p1 = some rv) : gMet l yX8_noise cX8_noise 3 (some .int) 2 43 E D cy shX ad L [.ref (ad w0), .int p0, .int p1] mem mem (some (.int rv)) := by
  refine g_go (own := RX8) (by decide +kernel) rfl hE (Nat.le_of_ble_eq_true rfl) ?_
  intro p e s m args below meth c R Q hargs hR hQ hEs hC hr hX H locs ls hH hl
  have hF := gF_of hk
  have hl : lv_has ls 3 [(0, .ref (ad w0)), (1, .int p0), (2, .int p1)] := hl
  refine lv_aload_n hC.x hC.b dX8_noise_0 rfl (lv_at hl 0 rfl) ?_
  refine lv_iload_n hC.x hC.b dX8_noise_1 rfl (lv_at hl 1 rfl) ?_
  refine lv_iload_n hC.x hC.b dX8_noise_2 rfl (lv_at hl 2 rfl) ?_
  obtain ⟨x1, hf1, h⟩ := bd_e h
  refine u_X8_16 (As := [.int p0, .int p1]) (rest := []) hC hX hE.2.1 hF hH (c_X5_noise (l := l) hk hL hE hw0 (by have := hkd; omega) hf1) hw0 hkd rfl hl.1 (rmk hR (by decide) (by decide)) (Nat.le_of_ble_eq_true rfl) dX8_noise_3 (fun H locs hH => ?_)
  refine lv_aload_n hC.x hC.b dX8_noise_6 rfl (lv_at hl 0 rfl) ?_
  refine r_getc (z := (w0 + 2)) hC hH fl_X8_9_8 hw0.2.2.2.1 (sWT hw0 hkd) rfl dX8_noise_7 ?_
  refine lv_iload_n hC.x hC.b dX8_noise_10 rfl (lv_at hl 2 rfl) ?_
  refine lv_iconst (v := 4) hC.x hC.b dX8_noise_11 rfl ?_
  obtain ⟨x2, hf2, h⟩ := bd_e h
  refine c_S1 (As := [.int p1, .int (4 : Int32)]) (rest := [.ref (ad (w0 + 2)), .int x1]) hC hX hE.2.1 hF hH (c_J9_floorMod_7cf53 (l := l) hk hL hE hf2) kw365 kw366 kw310 kw368 a_J9_floorMod_7cf53.1 a_J9_floorMod_7cf53.2 rfl hl.1 (rmk hR (by decide) (by decide)) (Nat.le_of_ble_eq_true rfl) dX8_noise_12 (fun H locs hH => ?_)
  refine r_iald hC hH (hw0.2.2.2.2.2 hkd).1 (sW2 hw0) h dX8_noise_15 (fun h => ?_)
  refine lv_iadd hC.x hC.b dX8_noise_16 ?_
  rw [hQ]
  exact e_ir hC hr hH h dX8_noise_17
theorem a_X9_keep : noMH yX9_keep.cls ∧ arity yX9_keep.desc 0 := by decide +kernel
theorem u_X8_25 {p : Program} {l : Launch} {e : Env} {R : Room} {s : State} {m : MethodId} {args : Array Value} {below : List Frame} {meth : Method} {c : Code} {H : Heap} {locs : List Loc} {cells slots : Nat} {Q : State → Prop} {cc : ByteArray} {nL : Nat} {pc : Nat} {ls : Array Slot} {rest As : List Value} {D : va_G} {cy : Nat → ClassId} {ad : Nat → Nat} {L : List Nat} {A : Nat → Prop} {mem mem' : gMem} {E : State → Prop} {fr lo w : Nat} (hC : gC p s m args meth c cc nL RX8 D cy) (hX : gX A s E) (hB : eBl E) (hF : gF ad L A) (hH : gH D cy shX ad L A s.heap mem H locs) (hM : gMet l yX9_keep cX9_keep 1 none fr lo E D cy shX ad L (.ref (ad w) :: As) mem mem' none) (hw : wok L w) (hk : wkd w = 6) (hn : As.length = 0) (hls : ls.size = nL) (hR : fr + 1 ≤ R.frames ∧ 8 + (1 + 11) + lo ≤ R.locals ∧ cells ≤ R.cells ∧ slots ≤ R.slots) (hW : (rest.map fun v => v.category).sum ≤ 8) (hdg : decode cc pc = .ok (.invokespecial 25, 3))
    (kk : ∀ (H1 : Heap) (locs1 : List Loc), gH D cy shX ad L A s.heap mem' H1 locs1 → W p l e R s m args below meth c H1 locs1 cells slots Q (F0 m (pc + 3) ls rest)) : W p l e R s m args below meth c H locs cells slots Q (F0 m pc ls (As.reverse ++ .ref (ad w) :: rest)) := by
  rcases hk with hk
  · exact c_SX (ov := none) (x := ⟨"OnTiptoe$Slow", "keep", "()V"⟩) (owner := "OnTiptoe$Walker") (q := (RX8, TX8, 8)) hC hX hB hF hH hM rfl kw1356 kw1357 kw364 kw1224 kw221 kw1079 kw1078 (by decide +kernel) a_X9_keep.2 hw.2.2.2.1 (sWk hw hk) rfl hn hls hR hW hdg kk
theorem fl_X8_13_8 : gFl RX8 13 8 7 := ⟨RX8, TX8, 8, "OnTiptoe$Told", rfl, inW8, by decide, kw253, Or.inl rfl⟩
def f_X8_keep (L : List Nat) (mem : gMem) (w0 : Nat) : Option gMem := bd (f_X9_keep L mem w0) fun (m1 : gMem) => lt1 (gcp m1 (w0 + 2) (w0 + 3) 4) fun (m2 : gMem) => some m2
set_option maxRecDepth 100000 in
set_option maxHeartbeats 4000000 in
theorem c_X8_keep {l : Launch} {E : State → Prop} {D : va_G} {cy : Nat → ClassId} {ad : Nat → Nat} {L : List Nat} {mem : gMem} {w0 : Nat} {memz : gMem} (hk : gOk ad L) (hL : ∀ o ∈ LX0, o ∈ L) (hE : gEok ad L E) (hw0 : wok L w0) (hkd : wkd w0 = 6) (h : f_X8_keep L mem w0 = some memz) : gMet l yX8_keep cX8_keep 1 none 1 60 E D cy shX ad L [.ref (ad w0)] mem memz none := by
  refine g_go (own := RX8) (by decide +kernel) rfl hE (Nat.le_of_ble_eq_true rfl) ?_
  intro p e s m args below meth c R Q hargs hR hQ hEs hC hr hX H locs ls hH hl
  have hF := gF_of hk
  have hl : lv_has ls 1 [(0, .ref (ad w0))] := hl
  refine lv_aload_n hC.x hC.b dX8_keep_0 rfl (lv_at hl 0 rfl) ?_
  obtain ⟨m1, hf1, h⟩ := bd_e h
  refine u_X8_25 (As := []) (rest := []) hC hX hE.2.1 hF hH (c_X9_keep (l := l) hk hL hE hw0 hf1) hw0 hkd rfl hl.1 (rmk hR (by decide) (by decide)) (Nat.le_of_ble_eq_true rfl) dX8_keep_1 (fun H locs hH => ?_)
  refine lv_aload_n hC.x hC.b dX8_keep_4 rfl (lv_at hl 0 rfl) ?_
  refine r_getc (z := (w0 + 2)) hC hH fl_X8_9_8 hw0.2.2.2.1 (sWT hw0 hkd) rfl dX8_keep_5 ?_
  refine lv_iconst (v := 0) hC.x hC.b dX8_keep_8 rfl ?_
  refine lv_aload_n hC.x hC.b dX8_keep_9 rfl (lv_at hl 0 rfl) ?_
  refine r_getc (z := (w0 + 3)) hC hH fl_X8_13_8 hw0.2.2.2.1 (sWT hw0 hkd) rfl dX8_keep_10 ?_
  refine lv_iconst (v := 0) hC.x hC.b dX8_keep_13 rfl ?_
  refine lv_iconst (v := 4) hC.x hC.b dX8_keep_14 rfl ?_
  refine r_copy (n := 4) hC hF hH hl.1 kw1089 kw1067 kw1068 kw1069 (hw0.2.2.2.2.2 hkd).1 (hw0.2.2.2.2.2 hkd).2 (sW2 hw0) (sW3 hw0) rfl (by decide) (by decide) (by decide) (rmC hR (by decide) (Nat.le_of_ble_eq_true rfl)) h dX8_keep_15 (fun m2 H locs h hH => ?_)
  rw [hQ]
  exact e_v hC hr hH h dX8_keep_18
theorem a_X9_goBack : noMH yX9_goBack.cls ∧ arity yX9_goBack.desc 0 := by decide +kernel
theorem u_X8_35 {p : Program} {l : Launch} {e : Env} {R : Room} {s : State} {m : MethodId} {args : Array Value} {below : List Frame} {meth : Method} {c : Code} {H : Heap} {locs : List Loc} {cells slots : Nat} {Q : State → Prop} {cc : ByteArray} {nL : Nat} {pc : Nat} {ls : Array Slot} {rest As : List Value} {D : va_G} {cy : Nat → ClassId} {ad : Nat → Nat} {L : List Nat} {A : Nat → Prop} {mem mem' : gMem} {E : State → Prop} {fr lo w : Nat} (hC : gC p s m args meth c cc nL RX8 D cy) (hX : gX A s E) (hB : eBl E) (hF : gF ad L A) (hH : gH D cy shX ad L A s.heap mem H locs) (hM : gMet l yX9_goBack cX9_goBack 1 none fr lo E D cy shX ad L (.ref (ad w) :: As) mem mem' none) (hw : wok L w) (hk : wkd w = 6) (hn : As.length = 0) (hls : ls.size = nL) (hR : fr + 1 ≤ R.frames ∧ 8 + (1 + 11) + lo ≤ R.locals ∧ cells ≤ R.cells ∧ slots ≤ R.slots) (hW : (rest.map fun v => v.category).sum ≤ 8) (hdg : decode cc pc = .ok (.invokespecial 35, 3))
    (kk : ∀ (H1 : Heap) (locs1 : List Loc), gH D cy shX ad L A s.heap mem' H1 locs1 → W p l e R s m args below meth c H1 locs1 cells slots Q (F0 m (pc + 3) ls rest)) : W p l e R s m args below meth c H locs cells slots Q (F0 m pc ls (As.reverse ++ .ref (ad w) :: rest)) := by
  rcases hk with hk
  · exact c_SX (ov := none) (x := ⟨"OnTiptoe$Slow", "goBack", "()V"⟩) (owner := "OnTiptoe$Walker") (q := (RX8, TX8, 8)) hC hX hB hF hH hM rfl kw1358 kw1359 kw364 kw1224 kw221 kw1104 kw1103 (by decide +kernel) a_X9_goBack.2 hw.2.2.2.1 (sWk hw hk) rfl hn hls hR hW hdg kk
def f_X8_goBack (L : List Nat) (mem : gMem) (w0 : Nat) : Option gMem := bd (f_X9_goBack L mem w0) fun (m1 : gMem) => lt1 (gcp m1 (w0 + 3) (w0 + 2) 4) fun (m2 : gMem) => some m2
set_option maxRecDepth 100000 in
set_option maxHeartbeats 4000000 in
theorem c_X8_goBack {l : Launch} {E : State → Prop} {D : va_G} {cy : Nat → ClassId} {ad : Nat → Nat} {L : List Nat} {mem : gMem} {w0 : Nat} {memz : gMem} (hk : gOk ad L) (hL : ∀ o ∈ LX0, o ∈ L) (hE : gEok ad L E) (hw0 : wok L w0) (hkd : wkd w0 = 6) (h : f_X8_goBack L mem w0 = some memz) : gMet l yX8_goBack cX8_goBack 1 none 1 60 E D cy shX ad L [.ref (ad w0)] mem memz none := by
  refine g_go (own := RX8) (by decide +kernel) rfl hE (Nat.le_of_ble_eq_true rfl) ?_
  intro p e s m args below meth c R Q hargs hR hQ hEs hC hr hX H locs ls hH hl
  have hF := gF_of hk
  have hl : lv_has ls 1 [(0, .ref (ad w0))] := hl
  refine lv_aload_n hC.x hC.b dX8_goBack_0 rfl (lv_at hl 0 rfl) ?_
  obtain ⟨m1, hf1, h⟩ := bd_e h
  refine u_X8_35 (As := []) (rest := []) hC hX hE.2.1 hF hH (c_X9_goBack (l := l) hk hL hE hw0 hf1) hw0 hkd rfl hl.1 (rmk hR (by decide) (by decide)) (Nat.le_of_ble_eq_true rfl) dX8_goBack_1 (fun H locs hH => ?_)
  refine lv_aload_n hC.x hC.b dX8_goBack_4 rfl (lv_at hl 0 rfl) ?_
  refine r_getc (z := (w0 + 3)) hC hH fl_X8_13_8 hw0.2.2.2.1 (sWT hw0 hkd) rfl dX8_goBack_5 ?_
  refine lv_iconst (v := 0) hC.x hC.b dX8_goBack_8 rfl ?_
  refine lv_aload_n hC.x hC.b dX8_goBack_9 rfl (lv_at hl 0 rfl) ?_
  refine r_getc (z := (w0 + 2)) hC hH fl_X8_9_8 hw0.2.2.2.1 (sWT hw0 hkd) rfl dX8_goBack_10 ?_
  refine lv_iconst (v := 0) hC.x hC.b dX8_goBack_13 rfl ?_
  refine lv_iconst (v := 4) hC.x hC.b dX8_goBack_14 rfl ?_
  refine r_copy (n := 4) hC hF hH hl.1 kw1089 kw1067 kw1068 kw1069 (hw0.2.2.2.2.2 hkd).2 (hw0.2.2.2.2.2 hkd).1 (sW3 hw0) (sW2 hw0) rfl (by decide) (by decide) (by decide) (rmC hR (by decide) (Nat.le_of_ble_eq_true rfl)) h dX8_goBack_15 (fun m2 H locs h hH => ?_)
  rw [hQ]
  exact e_v hC hr hH h dX8_goBack_18
theorem a_X9_begin : noMH yX9_begin.cls ∧ arity yX9_begin.desc 1 := by decide +kernel
theorem v_X9_31_begin {p : Program} {l : Launch} {e : Env} {R : Room} {s : State} {m : MethodId} {args : Array Value} {below : List Frame} {meth : Method} {c : Code} {H : Heap} {locs : List Loc} {Q : State → Prop} {cc : ByteArray} {nL : Nat} {pc : Nat} {ls : Array Slot} {rest : List Value} {D : va_G} {cy : Nat → ClassId} {ad : Nat → Nat} {L : List Nat} {mem mem' : gMem} {E : State → Prop} {fr0 lo0 w : Nat} {x0 : Int32}  (hC : gC p s m args meth c cc nL RX9 D cy) (hX : gX (gA ad L) s E) (hk : gOk ad L) (hL : ∀ o ∈ LX0, o ∈ L) (hE : gEok ad L E) (hF : gF ad L (gA ad L)) (hH : gH D cy shX ad L (gA ad L) s.heap mem H locs) (hw : wok L w) (hf : f_X9_begin L mem w x0 = some mem') (hls : ls.size = nL) (hR : R = gRm fr0 lo0) (h1 : 1 ≤ fr0) (h2 : 21 ≤ lo0) (hW : (rest.map fun v => v.category).sum ≤ 8) (hdg : decode cc pc = .ok (.invokevirtual 31, 3))
    (kk : ∀ (H1 : Heap) (locs1 : List Loc), gH D cy shX ad L (gA ad L) s.heap mem' H1 locs1 → W p l e R s m args below meth c H1 locs1 0 0 Q (F0 m (pc + 3) ls rest)) : W p l e R s m args below meth c H locs 0 0 Q (F0 m pc ls (.int x0 :: .ref (ad w) :: rest)) := by
  have hk7 := hw.2.2.1
  by_cases hc : wkd w = 0
  · exact c_U0 (As := [.int x0]) (rest := rest) (o := w) (x := ⟨"OnTiptoe$Walker", "begin", "(I)V"⟩) (owner := "OnTiptoe$Walker") (b0 := cX9_begin) (m0 := 2) (r0 := none) (q := (RX9, TX9, 6)) hC hX hE.2.1 hF hH (c_X9_begin (l := l) (mem := mem) hk hL hE hw hf) kw1142 kw1143 kw1151 kw221 kw1135 kw1134 kw1134 kw1135 (by decide +kernel) a_X9_begin.2 hw.2.2.2.1 (sWk hw hc) rfl rfl hls (rmk hR (by omega) (by omega)) hW hdg kk
  have hz0 := hc
  clear hc
  by_cases hc : wkd w = 1
  · exact c_U0 (As := [.int x0]) (rest := rest) (o := w) (x := ⟨"OnTiptoe$Walker", "begin", "(I)V"⟩) (owner := "OnTiptoe$Walker") (b0 := cX9_begin) (m0 := 2) (r0 := none) (q := (RX1, TX1, 6)) hC hX hE.2.1 hF hH (c_X9_begin (l := l) (mem := mem) hk hL hE hw hf) kw1142 kw1143 kw1145 kw221 kw1135 kw1134 kw1134 kw1135 (by decide +kernel) a_X9_begin.2 hw.2.2.2.1 (sWk hw hc) rfl rfl hls (rmk hR (by omega) (by omega)) hW hdg kk
  have hz1 := hc
  clear hc
  by_cases hc : wkd w = 2
  · exact c_U0 (As := [.int x0]) (rest := rest) (o := w) (x := ⟨"OnTiptoe$Walker", "begin", "(I)V"⟩) (owner := "OnTiptoe$Walker") (b0 := cX9_begin) (m0 := 2) (r0 := none) (q := (RX6, TX6, 6)) hC hX hE.2.1 hF hH (c_X9_begin (l := l) (mem := mem) hk hL hE hw hf) kw1142 kw1143 kw1147 kw221 kw1135 kw1134 kw1134 kw1135 (by decide +kernel) a_X9_begin.2 hw.2.2.2.1 (sWk hw hc) rfl rfl hls (rmk hR (by omega) (by omega)) hW hdg kk
  have hz2 := hc
  clear hc
  by_cases hc : wkd w = 3
  · exact c_U0 (As := [.int x0]) (rest := rest) (o := w) (x := ⟨"OnTiptoe$Walker", "begin", "(I)V"⟩) (owner := "OnTiptoe$Walker") (b0 := cX9_begin) (m0 := 2) (r0 := none) (q := (RX5, TX5, 6)) hC hX hE.2.1 hF hH (c_X9_begin (l := l) (mem := mem) hk hL hE hw hf) kw1142 kw1143 kw1146 kw221 kw1135 kw1134 kw1134 kw1135 (by decide +kernel) a_X9_begin.2 hw.2.2.2.1 (sWk hw hc) rfl rfl hls (rmk hR (by omega) (by omega)) hW hdg kk
  have hz3 := hc
  clear hc
  by_cases hc : wkd w = 4
  · exact c_U0 (As := [.int x0]) (rest := rest) (o := w) (x := ⟨"OnTiptoe$Walker", "begin", "(I)V"⟩) (owner := "OnTiptoe$Walker") (b0 := cX9_begin) (m0 := 2) (r0 := none) (q := (RX7, TX7, 6)) hC hX hE.2.1 hF hH (c_X9_begin (l := l) (mem := mem) hk hL hE hw hf) kw1142 kw1143 kw1148 kw221 kw1135 kw1134 kw1134 kw1135 (by decide +kernel) a_X9_begin.2 hw.2.2.2.1 (sWk hw hc) rfl rfl hls (rmk hR (by omega) (by omega)) hW hdg kk
  have hz4 := hc
  clear hc
  by_cases hc : wkd w = 5
  · exact c_U0 (As := [.int x0]) (rest := rest) (o := w) (x := ⟨"OnTiptoe$Walker", "begin", "(I)V"⟩) (owner := "OnTiptoe$Walker") (b0 := cX9_begin) (m0 := 2) (r0 := none) (q := (RX0, TX0, 6)) hC hX hE.2.1 hF hH (c_X9_begin (l := l) (mem := mem) hk hL hE hw hf) kw1142 kw1143 kw1144 kw221 kw1135 kw1134 kw1134 kw1135 (by decide +kernel) a_X9_begin.2 hw.2.2.2.1 (sWk hw hc) rfl rfl hls (rmk hR (by omega) (by omega)) hW hdg kk
  have hz5 := hc
  clear hc
  have hc : wkd w = 6 := by omega
  exact c_U0 (As := [.int x0]) (rest := rest) (o := w) (x := ⟨"OnTiptoe$Walker", "begin", "(I)V"⟩) (owner := "OnTiptoe$Walker") (b0 := cX9_begin) (m0 := 2) (r0 := none) (q := (RX8, TX8, 8)) hC hX hE.2.1 hF hH (c_X9_begin (l := l) (mem := mem) hk hL hE hw hf) kw1142 kw1143 kw1149 kw221 kw1135 kw1134 kw1134 kw1135 (by decide +kernel) a_X9_begin.2 hw.2.2.2.1 (sWk hw hc) rfl rfl hls (rmk hR (by omega) (by omega)) hW hdg kk
theorem fw_X9_15 : ∀ j, j < 7 → gFl RX9 15 (kci j) 0 := by
  intro j hj
  rcases (show j = 0 ∨ j = 1 ∨ j = 2 ∨ j = 3 ∨ j = 4 ∨ j = 5 ∨ j = 6 by omega) with rfl | rfl | rfl | rfl | rfl | rfl | rfl
  · exact ⟨RX9, TX9, 6, "OnTiptoe$Walker", rfl, inW9, by decide, kw230, Or.inl rfl⟩
  · exact ⟨RX1, TX1, 6, "OnTiptoe$Walker", rfl, inW1, by decide, kw230, Or.inl rfl⟩
  · exact ⟨RX6, TX6, 6, "OnTiptoe$Walker", rfl, inW6, by decide, kw230, Or.inl rfl⟩
  · exact ⟨RX5, TX5, 6, "OnTiptoe$Walker", rfl, inW5, by decide, kw230, Or.inl rfl⟩
  · exact ⟨RX7, TX7, 6, "OnTiptoe$Walker", rfl, inW7, by decide, kw230, Or.inl rfl⟩
  · exact ⟨RX0, TX0, 6, "OnTiptoe$Walker", rfl, inW0, by decide, kw230, Or.inl rfl⟩
  · exact ⟨RX8, TX8, 8, "OnTiptoe$Walker", rfl, inW8, by decide, kw230, Or.inl rfl⟩
def f_X9_actTreads (L : List Nat) (mem : gMem) (w0 : Nat) (p0 : Int32) : Option (Int32 × gMem) := bd (f_X9_begin L mem w0 (10 : Int32)) fun (m1 : gMem) => some ((p0 + (gI m1 w0 0)), m1)
set_option maxRecDepth 100000 in
set_option maxHeartbeats 4000000 in
theorem c_X9_actTreads {l : Launch} {E : State → Prop} {D : va_G} {cy : Nat → ClassId} {ad : Nat → Nat} {L : List Nat} {mem : gMem} {w0 : Nat} {p0 : Int32} {rv : Int32} {memz : gMem} (hk : gOk ad L) (hL : ∀ o ∈ LX0, o ∈ L) (hE : gEok ad L E) (hw0 : wok L w0) (h : f_X9_actTreads L mem w0 p0 = some (rv, memz)) : gMet l yX9_actTreads cX9_actTreads 2 (some .int) 1 21 E D cy shX ad L [.ref (ad w0), .int p0] mem memz (some (.int rv)) := by
  refine g_go (own := RX9) (by decide +kernel) rfl hE (Nat.le_of_ble_eq_true rfl) ?_
  intro p e s m args below meth c R Q hargs hR hQ hEs hC hr hX H locs ls hH hl
  have hF := gF_of hk
  have hl : lv_has ls 2 [(0, .ref (ad w0)), (1, .int p0)] := hl
  refine lv_aload_n hC.x hC.b dX9_actTreads_0 rfl (lv_at hl 0 rfl) ?_
  refine lv_bipush (v := 10) hC.x hC.b dX9_actTreads_1 rfl ?_
  obtain ⟨m1, hf1, h⟩ := bd_e h
  refine v_X9_31_begin hC hX hk hL hE hF hH hw0 hf1 hl.1 hR (by decide) (by decide) (Nat.le_of_ble_eq_true rfl) dX9_actTreads_3 (fun H locs hH => ?_)
  refine lv_iload_n hC.x hC.b dX9_actTreads_6 rfl (lv_at hl 1 rfl) ?_
  refine lv_aload_n hC.x hC.b dX9_actTreads_7 rfl (lv_at hl 0 rfl) ?_
  refine r_geti hC hH (fw_X9_15 _ hw0.2.2.1) hw0.2.2.2.1 (sW0 hw0) rfl dX9_actTreads_8 ?_
  refine lv_iadd hC.x hC.b dX9_actTreads_11 ?_
  rw [hQ]
  exact e_i hC hr hH h dX9_actTreads_12
theorem fl_X10_9_10 : gFl RX10 9 10 0 := ⟨RX10, TX10, 10, "OnTiptoe$Ways", rfl, inW10, by decide, kw61, Or.inl rfl⟩
def f_X10_noiseAt (L : List Nat) (mem : gMem) (p0 : Int32) (p1 : Int32) : Option Int32 := bd (f_J9_floorMod_7cf53 p1 (12 : Int32)) fun (x1 : Int32) => lt1 ((x1 * (12 : Int32)) + p0) fun (x2 : Int32) => if x2 < 0 then (some (0 : Int32)) else if (144 : Int32) ≤ x2 then (some (0 : Int32)) else if okI x2 144 then some (gI mem 33 (ix x2)) else none
set_option maxRecDepth 100000 in
set_option maxHeartbeats 4000000 in
theorem c_X10_noiseAt {l : Launch} {E : State → Prop} {D : va_G} {cy : Nat → ClassId} {ad : Nat → Nat} {L : List Nat} {mem : gMem} {p0 : Int32} {p1 : Int32} {rv : Int32} (hk : gOk ad L) (hL : ∀ o ∈ LX0, o ∈ L) (hE : gEok ad L E)  (h : f_X10_noiseAt L mem p0 p1 = some rv) : gMet l yX10_noiseAt cX10_noiseAt 4 (some .int) 1 22 E D cy shX ad L [.ref (ad 32), .int p0, .int p1] mem mem (some (.int rv)) := by
  refine g_go (own := RX10) (by decide +kernel) rfl hE (Nat.le_of_ble_eq_true rfl) ?_
  intro p e s m args below meth c R Q hargs hR hQ hEs hC hr hX H locs ls hH hl
  have hF := gF_of hk
  have hl : lv_has ls 4 [(0, .ref (ad 32)), (1, .int p0), (2, .int p1)] := hl
  refine lv_iload_n hC.x hC.b dX10_noiseAt_0 rfl (lv_at hl 2 rfl) ?_
  refine lv_bipush (v := 12) hC.x hC.b dX10_noiseAt_1 rfl ?_
  obtain ⟨x1, hf1, h⟩ := bd_e h
  refine c_S1 (As := [.int p1, .int (12 : Int32)]) (rest := []) hC hX hE.2.1 hF hH (c_J9_floorMod_7cf53 (l := l) hk hL hE hf1) kw832 kw366 kw310 kw368 a_J9_floorMod_7cf53.1 a_J9_floorMod_7cf53.2 rfl hl.1 (rmk hR (by decide) (by decide)) (Nat.le_of_ble_eq_true rfl) dX10_noiseAt_3 (fun H locs hH => ?_)
  refine lv_bipush (v := 12) hC.x hC.b dX10_noiseAt_6 rfl ?_
  refine lv_imul hC.x hC.b dX10_noiseAt_8 ?_
  refine lv_iload_n hC.x hC.b dX10_noiseAt_9 rfl (lv_at hl 1 rfl) ?_
  refine lv_iadd hC.x hC.b dX10_noiseAt_10 ?_
  refine n_i h (fun x2 h => ?_)
  refine lv_istore_n (lv' := [(3, .int x2), (0, .ref (ad 32)), (1, .int p0), (2, .int p1)]) hC.x hC.b dX10_noiseAt_11 rfl hl (by decide) rfl (fun ls hl => ?_)
  refine lv_iload_n hC.x hC.b dX10_noiseAt_12 rfl (lv_at hl 0 rfl) ?_
  refine b_if_lt (tgt := 34) hC dX10_noiseAt_13 (by decide) h (fun h => ?_) (fun h => ?_)
  · refine lv_iconst (v := 0) hC.x hC.b dX10_noiseAt_34 rfl ?_
    rw [hQ]
    exact e_ir hC hr hH h dX10_noiseAt_35
  · refine lv_iload_n hC.x hC.b dX10_noiseAt_16 rfl (lv_at hl 0 rfl) ?_
    refine lv_aload_n hC.x hC.b dX10_noiseAt_17 rfl (lv_at hl 1 rfl) ?_
    refine r_getc (z := 33) hC hH fl_X10_9_10 (hL _ mX32) sX32 rfl dX10_noiseAt_18 ?_
    refine r_alen (t := 0) hC hH (hL _ mX33) sX33 (v := 144) rfl dX10_noiseAt_21 ?_
    refine b_ic_ge (tgt := 34) hC dX10_noiseAt_22 (by decide) h (fun h => ?_) (fun h => ?_)
    · refine lv_iconst (v := 0) hC.x hC.b dX10_noiseAt_34 rfl ?_
      rw [hQ]
      exact e_ir hC hr hH h dX10_noiseAt_35
    · refine lv_aload_n hC.x hC.b dX10_noiseAt_25 rfl (lv_at hl 1 rfl) ?_
      refine r_getc (z := 33) hC hH fl_X10_9_10 (hL _ mX32) sX32 rfl dX10_noiseAt_26 ?_
      refine lv_iload_n hC.x hC.b dX10_noiseAt_29 rfl (lv_at hl 0 rfl) ?_
      refine r_iald hC hH (hL _ mX33) sX33 h dX10_noiseAt_30 (fun h => ?_)
      refine lv_goto (tgt := 35) hC.x hC.b dX10_noiseAt_31 (by decide) ?_
      rw [hQ]
      exact e_ir hC hr hH h dX10_noiseAt_35
theorem a_J0_isLatin1_aae02 : noMH yJ0_isLatin1_aae02.cls ∧ arity yJ0_isLatin1_aae02.desc 0 := by decide +kernel
theorem a_J0_length_8abf5 : noMH yJ0_length_8abf5.cls ∧ arity yJ0_length_8abf5.desc 0 := by decide +kernel
theorem a_J1_indexOf_4cfef : noMH yJ1_indexOf_4cfef.cls ∧ arity yJ1_indexOf_4cfef.desc 4 := by decide +kernel
def f_J0_indexOf_7cf53 (i0 : Nat) (p0 : Int32) (p1 : Int32) : Option Int32 := bd (f_J0_isLatin1_aae02 i0) fun (x1 : Int32) => bd (f_J0_length_8abf5 i0) fun (x2 : Int32) => bd (f_J1_indexOf_4cfef i0 p0 p1 x2) fun (x3 : Int32) => some x3
set_option maxRecDepth 100000 in
set_option maxHeartbeats 4000000 in
theorem c_J0_indexOf_7cf53 {l : Launch} {E : State → Prop} {D : va_G} {cy : Nat → ClassId} {ad : Nat → Nat} {L : List Nat} {adK adV : Nat → Nat} {mem : gMem} {i0 : Nat} {p0 : Int32} {p1 : Int32} {rv : Int32} (hk : gOk ad L) (hL : ∀ o ∈ LX0, o ∈ L) (hE : gEok ad L E) (hSs : ∀ s : State, E s → gS (gA ad L) adK adV s) (hi0 : i0 < 5) (h : f_J0_indexOf_7cf53 i0 p0 p1 = some rv) : gMet l yJ0_indexOf_7cf53 cJ0_indexOf_7cf53 3 (some .int) 2 48 E D cy shX ad L [.ref (adK i0), .int p0, .int p1] mem mem (some (.int rv)) := by
  refine g_go (own := RJ0) (by decide +kernel) rfl hE (Nat.le_of_ble_eq_true rfl) ?_
  intro p e s m args below meth c R Q hargs hR hQ hEs hC hr hX H locs ls hH hl
  have hF := gF_of hk
  have hl : lv_has ls 3 [(0, .ref (adK i0)), (1, .int p0), (2, .int p1)] := hl
  refine lv_aload_n hC.x hC.b dJ0_indexOf_7cf53_0 rfl (lv_at hl 0 rfl) ?_
  obtain ⟨x1, hf1, h⟩ := bd_e h
  have hone : (1 : Int32) = x1 := Option.some.inj hf1
  subst hone
  refine c_VR1 (As := []) (rest := []) (i := i0) hC hX hE.2.1 hF (hSs _ hEs) hi0 hH (c_J0_isLatin1_aae02 (l := l) hk hL hE hSs hi0 hf1) kw493 kw494 kw495 kw480 kw496 a_J0_isLatin1_aae02.1 a_J0_isLatin1_aae02.2 rfl hl.1 (rmk hR (by decide) (by decide)) (Nat.le_of_ble_eq_true rfl) dJ0_indexOf_7cf53_1 (fun H locs hH => ?_)
  refine lv_if_eq (tgt := 23) hC.x hC.b dJ0_indexOf_7cf53_4 (by decide) (fun hz => absurd hz (by decide)) (fun _ => ?_)
  refine lv_aload_n hC.x hC.b dJ0_indexOf_7cf53_7 rfl (lv_at hl 0 rfl) ?_
  refine s_val hC (hSs _ hEs) hH hi0 kw482 dJ0_indexOf_7cf53_8 ?_
  refine lv_iload_n hC.x hC.b dJ0_indexOf_7cf53_11 rfl (lv_at hl 1 rfl) ?_
  refine lv_iload_n hC.x hC.b dJ0_indexOf_7cf53_12 rfl (lv_at hl 2 rfl) ?_
  refine lv_aload_n hC.x hC.b dJ0_indexOf_7cf53_13 rfl (lv_at hl 0 rfl) ?_
  obtain ⟨x2, hf2, h⟩ := bd_e h
  refine c_VR1 (As := []) (rest := [.int p1, .int p0, .ref (adV i0)]) (i := i0) hC hX hE.2.1 hF (hSs _ hEs) hi0 hH (c_J0_length_8abf5 (l := l) hk hL hE hSs hi0 hf2) kw573 kw478 kw479 kw480 kw481 a_J0_length_8abf5.1 a_J0_length_8abf5.2 rfl hl.1 (rmk hR (by decide) (by decide)) (Nat.le_of_ble_eq_true rfl) dJ0_indexOf_7cf53_14 (fun H locs hH => ?_)
  obtain ⟨x3, hf3, h⟩ := bd_e h
  refine c_S1 (As := [.ref (adV i0), .int p0, .int p1, .int x2]) (rest := []) hC hX hE.2.1 hF hH (c_J1_indexOf_4cfef (l := l) hk hL hE hSs hi0 hf3) kw574 kw575 kw499 kw576 a_J1_indexOf_4cfef.1 a_J1_indexOf_4cfef.2 rfl hl.1 (rmk hR (by decide) (by decide)) (Nat.le_of_ble_eq_true rfl) dJ0_indexOf_7cf53_17 (fun H locs hH => ?_)
  refine lv_goto (tgt := 36) hC.x hC.b dJ0_indexOf_7cf53_20 (by decide) ?_
  rw [hQ]
  exact e_ir hC hr hH h dJ0_indexOf_7cf53_36
theorem a_J0_checkIndex_df160 : noMH yJ0_checkIndex_df160.cls ∧ arity yJ0_checkIndex_df160.desc 2 := by decide +kernel
def f_J1_charAt_3b067 (i0 : Nat) (p1 : Int32) : Option Int32 := bd (f_J0_checkIndex_df160 p1 (nI (lenJ.getD i0 0))) fun (_ : Unit) => if okI p1 (lenJ.getD i0 0) then some (((((bytJ.getD i0 []).getD (ix p1) 0) &&& (255 : Int32)).toUInt32 % 65536).toInt32) else none
set_option maxRecDepth 100000 in
set_option maxHeartbeats 4000000 in
theorem c_J1_charAt_3b067 {l : Launch} {E : State → Prop} {D : va_G} {cy : Nat → ClassId} {ad : Nat → Nat} {L : List Nat} {adK adV : Nat → Nat} {mem : gMem} {i0 : Nat} {p1 : Int32} {rv : Int32} (hk : gOk ad L) (hL : ∀ o ∈ LX0, o ∈ L) (hE : gEok ad L E) (hSs : ∀ s : State, E s → gS (gA ad L) adK adV s) (hi0 : i0 < 5) (h : f_J1_charAt_3b067 i0 p1 = some rv) : gMet l yJ1_charAt_3b067 cJ1_charAt_3b067 2 (some .char) 2 43 E D cy shX ad L [.ref (adV i0), .int p1] mem mem (some (.int rv)) := by
  refine g_go (own := RJ1) (by decide +kernel) rfl hE (Nat.le_of_ble_eq_true rfl) ?_
  intro p e s m args below meth c R Q hargs hR hQ hEs hC hr hX H locs ls hH hl
  have hF := gF_of hk
  have hl : lv_has ls 2 [(0, .ref (adV i0)), (1, .int p1)] := hl
  refine lv_iload_n hC.x hC.b dJ1_charAt_3b067_0 rfl (lv_at hl 1 rfl) ?_
  refine lv_aload_n hC.x hC.b dJ1_charAt_3b067_1 rfl (lv_at hl 0 rfl) ?_
  refine s_alen hC (hSs _ hEs) hH hi0 dJ1_charAt_3b067_2 ?_
  obtain ⟨_, hf0, h⟩ := bd_e h
  refine c_S0 (As := [.int p1, .int (nI (lenJ.getD i0 0))]) (rest := []) hC hX hE.2.1 hF hH (c_J0_checkIndex_df160 (l := l) hk hL hE hSs hf0) kw501 kw502 kw480 kw503 a_J0_checkIndex_df160.1 a_J0_checkIndex_df160.2 rfl hl.1 (rmk hR (by decide) (by decide)) (Nat.le_of_ble_eq_true rfl) dJ1_charAt_3b067_3 (fun H locs hH => ?_)
  refine lv_aload_n hC.x hC.b dJ1_charAt_3b067_6 rfl (lv_at hl 0 rfl) ?_
  refine lv_iload_n hC.x hC.b dJ1_charAt_3b067_7 rfl (lv_at hl 1 rfl) ?_
  refine s_bld hC (hSs _ hEs) hH hi0 h dJ1_charAt_3b067_8 (fun h => ?_)
  refine lv_sipush (v := 255) hC.x hC.b dJ1_charAt_3b067_9 rfl ?_
  refine lv_iand hC.x hC.b dJ1_charAt_3b067_12 ?_
  refine lv_i2c hC.x hC.b dJ1_charAt_3b067_13 rfl ?_
  rw [hQ]
  exact e_nr hC hr (pk_nc _) hH h dJ1_charAt_3b067_14

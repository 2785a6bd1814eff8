theorem a_X2_depth : noMH yX2_depth.cls ∧ arity yX2_depth.desc 1 := by decide +kernel
def f_X11_told (L : List Nat) (mem : gMem) (p0 : Int32) : Option (Int32 × gMem) := if p0 = 0 then (some ((gI mem 10 4), mem)) else if p0 = 1 then (some ((gI mem 10 5), mem)) else if p0 = 2 then (if (gI mem 10 6) = 0 then (some ((0 : Int32), mem)) else some ((1 : Int32), mem)) else if p0 = 3 then (bd2 (f_X2_depth L mem (gI mem 10 4)) fun (x2 : Int32) (m1 : gMem) => some (x2, m1)) else if p0 = 4 then (some ((gI mem 10 2), mem)) else if p0 = 5 then (some ((gI mem 10 1), mem)) else some ((-1 : Int32), mem)
set_option maxRecDepth 100000 in
set_option maxHeartbeats 4000000 in
theorem c_X11_told {l : Launch} {E : State → Prop} {D : va_G} {cy : Nat → ClassId} {ad : Nat → Nat} {L : List Nat} {mem : gMem} {p0 : Int32} {rv : Int32} {memz : gMem} (hk : gOk ad L) (hL : ∀ o ∈ LX0, o ∈ L) (hE : gEok ad L E)  (h : f_X11_told L mem p0 = some (rv, memz)) : gMet l yX11_told cX11_told 2 (some .int) 4 98 E D cy shX ad L [.ref (ad 0), .int p0] mem memz (some (.int rv)) := by
  refine g_go (own := RX11) (by decide +kernel) rfl hE (Nat.le_of_ble_eq_true rfl) ?_
  intro p e s m args below meth c R Q hargs hR hQ hEs hC hr hX H locs ls hH hl
  have hF := gF_of hk
  have hl : lv_has ls 2 [(0, .ref (ad 0)), (1, .int p0)] := hl
  refine lv_iload_n hC.x hC.b dX11_told_0 rfl (lv_at hl 1 rfl) ?_
  by_cases hx0 : p0 = 0
  · have h := ifp hx0 h
    refine lv_tableIn (off := 39) (tgt := 40) hC.x hC.b dX11_told_1 (by rw [hx0]; decide) (by rw [hx0]; decide) (by rw [hx0]; rfl) (by decide) ?_
    refine lv_aload_n hC.x hC.b dX11_told_40 rfl (lv_at hl 0 rfl) ?_
    refine r_getc (z := 10) hC hH fl_X11_12_11 (hL _ mX0) sX0 rfl dX11_told_41 ?_
    refine r_geti hC hH fl_X11_103_2 (hL _ mX10) sX10 rfl dX11_told_44 ?_
    rw [hQ]
    exact e_i hC hr hH h dX11_told_47
  have h := ifn hx0 h
  by_cases hx1 : p0 = 1
  · have h := ifp hx1 h
    refine lv_tableIn (off := 47) (tgt := 48) hC.x hC.b dX11_told_1 (by rw [hx1]; decide) (by rw [hx1]; decide) (by rw [hx1]; rfl) (by decide) ?_
    refine lv_aload_n hC.x hC.b dX11_told_48 rfl (lv_at hl 0 rfl) ?_
    refine r_getc (z := 10) hC hH fl_X11_12_11 (hL _ mX0) sX0 rfl dX11_told_49 ?_
    refine r_geti hC hH fl_X11_133_2 (hL _ mX10) sX10 rfl dX11_told_52 ?_
    rw [hQ]
    exact e_i hC hr hH h dX11_told_55
  have h := ifn hx1 h
  by_cases hx2 : p0 = 2
  · have h := ifp hx2 h
    refine lv_tableIn (off := 55) (tgt := 56) hC.x hC.b dX11_told_1 (by rw [hx2]; decide) (by rw [hx2]; decide) (by rw [hx2]; rfl) (by decide) ?_
    refine lv_aload_n hC.x hC.b dX11_told_56 rfl (lv_at hl 0 rfl) ?_
    refine r_getc (z := 10) hC hH fl_X11_12_11 (hL _ mX0) sX0 rfl dX11_told_57 ?_
    refine r_geti hC hH fl_X11_136_2 (hL _ mX10) sX10 rfl dX11_told_60 ?_
    refine b_if_eq (tgt := 70) hC dX11_told_63 (by decide) h (fun h => ?_) (fun h => ?_)
    · refine lv_iconst (v := 0) hC.x hC.b dX11_told_70 rfl ?_
      rw [hQ]
      exact e_i hC hr hH h dX11_told_71
    · refine lv_iconst (v := 1) hC.x hC.b dX11_told_66 rfl ?_
      refine lv_goto (tgt := 71) hC.x hC.b dX11_told_67 (by decide) ?_
      rw [hQ]
      exact e_i hC hr hH h dX11_told_71
  have h := ifn hx2 h
  by_cases hx3 : p0 = 3
  · have h := ifp hx3 h
    refine lv_tableIn (off := 71) (tgt := 72) hC.x hC.b dX11_told_1 (by rw [hx3]; decide) (by rw [hx3]; decide) (by rw [hx3]; rfl) (by decide) ?_
    refine lv_aload_n hC.x hC.b dX11_told_72 rfl (lv_at hl 0 rfl) ?_
    refine r_getc (z := 10) hC hH fl_X11_12_11 (hL _ mX0) sX0 rfl dX11_told_73 ?_
    refine lv_aload_n hC.x hC.b dX11_told_76 rfl (lv_at hl 0 rfl) ?_
    refine r_getc (z := 10) hC hH fl_X11_12_11 (hL _ mX0) sX0 rfl dX11_told_77 ?_
    refine r_geti hC hH fl_X11_103_2 (hL _ mX10) sX10 rfl dX11_told_80 ?_
    obtain ⟨x2, m1, hf2, h⟩ := bd2_e h
    refine c_V1 (As := [.int (gI mem 10 4)]) (rest := []) (o := 10) (q := (RX2, TX2, 17)) hC hX hE.2.1 hF hH (c_X2_depth (l := l) hk hL hE hf2) kw695 kw696 kw697 kw15 kw698 a_X2_depth.1 a_X2_depth.2 (hL _ mX10) sX10 rfl rfl hl.1 (rmk hR (by decide) (by decide)) (Nat.le_of_ble_eq_true rfl) dX11_told_83 (fun H locs hH => ?_)
    rw [hQ]
    exact e_i hC hr hH h dX11_told_86
  have h := ifn hx3 h
  by_cases hx4 : p0 = 4
  · have h := ifp hx4 h
    refine lv_tableIn (off := 86) (tgt := 87) hC.x hC.b dX11_told_1 (by rw [hx4]; decide) (by rw [hx4]; decide) (by rw [hx4]; rfl) (by decide) ?_
    refine lv_aload_n hC.x hC.b dX11_told_87 rfl (lv_at hl 0 rfl) ?_
    refine r_getc (z := 10) hC hH fl_X11_12_11 (hL _ mX0) sX0 rfl dX11_told_88 ?_
    refine r_geti hC hH fl_X11_79_2 (hL _ mX10) sX10 rfl dX11_told_91 ?_
    rw [hQ]
    exact e_i hC hr hH h dX11_told_94
  have h := ifn hx4 h
  by_cases hx5 : p0 = 5
  · have h := ifp hx5 h
    refine lv_tableIn (off := 94) (tgt := 95) hC.x hC.b dX11_told_1 (by rw [hx5]; decide) (by rw [hx5]; decide) (by rw [hx5]; rfl) (by decide) ?_
    refine lv_aload_n hC.x hC.b dX11_told_95 rfl (lv_at hl 0 rfl) ?_
    refine r_getc (z := 10) hC hH fl_X11_12_11 (hL _ mX0) sX0 rfl dX11_told_96 ?_
    refine r_geti hC hH fl_X11_75_2 (hL _ mX10) sX10 rfl dX11_told_99 ?_
    rw [hQ]
    exact e_i hC hr hH h dX11_told_102
  have h := ifn hx5 h
  refine lv_tableOut (tgt := 103) hC.x hC.b dX11_told_1 (by have a0 := ne_ti (v := 0) (z := 0) rfl hx0; have a1 := ne_ti (v := 1) (z := 1) rfl hx1; have a2 := ne_ti (v := 2) (z := 2) rfl hx2; have a3 := ne_ti (v := 3) (z := 3) rfl hx3; have a4 := ne_ti (v := 4) (z := 4) rfl hx4; have a5 := ne_ti (v := 5) (z := 5) rfl hx5; omega) (by decide) ?_
  refine lv_iconst (v := -1) hC.x hC.b dX11_told_103 rfl ?_
  rw [hQ]
  exact e_i hC hr hH h dX11_told_104
def s_X11_looked_2 (L : List Nat) (self1 : Int32 → gMem → Option (Int32 × gMem)) (x2 : Int32) (m3 : gMem) : Option (Int32 × gMem) := if (gI m3 10 14) ≤ x2 then (some ((-5 : Int32), m3)) else if (12 : Int32) ≤ x2 then (some ((-5 : Int32), m3)) else if okI x2 12 then bd2 (f_X2_depth L m3 (((gI m3 10 4) + x2) + (1 : Int32))) fun (x5 : Int32) (m4 : gMem) => if (gI m3 16 (ix x2)) = x5 then (lt1 (x2 + (1 : Int32)) fun (x6 : Int32) => (self1 x6 m4)) else some (x2, m4) else none
def f_X11_looked (L : List Nat) (mem : gMem) : Option (Int32 × gMem) := lq2 (s_X11_looked_2 L) 1000 (0 : Int32) mem
set_option maxRecDepth 100000 in
set_option maxHeartbeats 4000000 in
theorem c_X11_looked {l : Launch} {E : State → Prop} {D : va_G} {cy : Nat → ClassId} {ad : Nat → Nat} {L : List Nat} {mem : gMem} {rv : Int32} {memz : gMem} (hk : gOk ad L) (hL : ∀ o ∈ LX0, o ∈ L) (hE : gEok ad L E)  (h : f_X11_looked L mem = some (rv, memz)) : gMet l yX11_looked cX11_looked 2 (some .int) 4 98 E D cy shX ad L [.ref (ad 0)] mem memz (some (.int rv)) := by
  refine g_go (own := RX11) (by decide +kernel) rfl hE (Nat.le_of_ble_eq_true rfl) ?_
  intro p e s m args below meth c R Q hargs hR hQ hEs hC hr hX H locs ls hH hl
  have hF := gF_of hk
  have hl : lv_has ls 2 [(0, .ref (ad 0))] := hl
  refine lv_iconst (v := 0) hC.x hC.b dX11_looked_0 rfl ?_
  refine lv_istore_n (lv' := [(1, .int (0 : Int32)), (0, .ref (ad 0))]) hC.x hC.b dX11_looked_1 rfl hl (by decide) rfl (fun ls hl => ?_)
  have hl1 : ∀ (n : Nat) (x2 : Int32) (m3 : gMem) (H : Heap) (locs : List Loc) (ls : Array Slot), lq2 (s_X11_looked_2 L) n x2 m3 = some (rv, memz) → gH D cy shX ad L (gA ad L) s.heap m3 H locs → lv_has ls 2 [(0, .ref (ad 0)), (1, .int x2)] → W p l e R s m args below meth c H locs 0 0 Q (F0 m 2 ls []) := by
    intro n
    induction n with
    | zero => intro x2 m3 H locs ls h _ _; exact lq2_0 h
    | succ n ih1 =>
      intro x2 m3 H locs ls h hH hl
      obtain ⟨self1, es1, h⟩ := lq2_s h
      refine lv_iload_n hC.x hC.b dX11_looked_2 rfl (lv_at hl 1 rfl) ?_
      refine lv_aload_n hC.x hC.b dX11_looked_3 rfl (lv_at hl 0 rfl) ?_
      refine r_getc (z := 10) hC hH fl_X11_12_11 (hL _ mX0) sX0 rfl dX11_looked_4 ?_
      refine r_geti hC hH fl_X11_226_2 (hL _ mX10) sX10 rfl dX11_looked_7 ?_
      refine b_ic_ge (tgt := 57) hC dX11_looked_10 (by decide) h (fun h => ?_) (fun h => ?_)
      · refine lv_bipush (v := -5) hC.x hC.b dX11_looked_57 rfl ?_
        rw [hQ]
        exact e_i hC hr hH h dX11_looked_59
      · refine lv_iload_n hC.x hC.b dX11_looked_13 rfl (lv_at hl 1 rfl) ?_
        refine lv_bipush (v := 12) hC.x hC.b dX11_looked_14 rfl ?_
        refine b_ic_ge (tgt := 57) hC dX11_looked_16 (by decide) h (fun h => ?_) (fun h => ?_)
        · refine lv_bipush (v := -5) hC.x hC.b dX11_looked_57 rfl ?_
          rw [hQ]
          exact e_i hC hr hH h dX11_looked_59
        · refine lv_aload_n hC.x hC.b dX11_looked_19 rfl (lv_at hl 0 rfl) ?_
          refine r_getc (z := 10) hC hH fl_X11_12_11 (hL _ mX0) sX0 rfl dX11_looked_20 ?_
          refine r_getc (z := 16) hC hH fl_X11_229_2 (hL _ mX10) sX10 rfl dX11_looked_23 ?_
          refine lv_iload_n hC.x hC.b dX11_looked_26 rfl (lv_at hl 1 rfl) ?_
          refine r_iald hC hH (hL _ mX16) sX16 h dX11_looked_27 (fun h => ?_)
          refine lv_aload_n hC.x hC.b dX11_looked_28 rfl (lv_at hl 0 rfl) ?_
          refine r_getc (z := 10) hC hH fl_X11_12_11 (hL _ mX0) sX0 rfl dX11_looked_29 ?_
          refine lv_aload_n hC.x hC.b dX11_looked_32 rfl (lv_at hl 0 rfl) ?_
          refine r_getc (z := 10) hC hH fl_X11_12_11 (hL _ mX0) sX0 rfl dX11_looked_33 ?_
          refine r_geti hC hH fl_X11_103_2 (hL _ mX10) sX10 rfl dX11_looked_36 ?_
          refine lv_iload_n hC.x hC.b dX11_looked_39 rfl (lv_at hl 1 rfl) ?_
          refine lv_iadd hC.x hC.b dX11_looked_40 ?_
          refine lv_iconst (v := 1) hC.x hC.b dX11_looked_41 rfl ?_
          refine lv_iadd hC.x hC.b dX11_looked_42 ?_
          obtain ⟨x5, m4, hf5, h⟩ := bd2_e h
          refine c_V1 (As := [.int (((gI m3 10 4) + x2) + (1 : Int32))]) (rest := [.int (gI m3 16 (ix x2))]) (o := 10) (q := (RX2, TX2, 17)) hC hX hE.2.1 hF hH (c_X2_depth (l := l) hk hL hE hf5) kw695 kw696 kw697 kw15 kw698 a_X2_depth.1 a_X2_depth.2 (hL _ mX10) sX10 rfl rfl hl.1 (rmk hR (by decide) (by decide)) (Nat.le_of_ble_eq_true rfl) dX11_looked_43 (fun H locs hH => ?_)
          refine b_ic_eq (tgt := 51) hC dX11_looked_46 (by decide) h (fun h => ?_) (fun h => ?_)
          · refine i_inc (lv' := fun x6 => [(1, .int x6), (0, .ref (ad 0))]) hC dX11_looked_51 hl (k := 1) rfl (by decide) (fun _ => rfl) (z := 1) rfl h (fun x6 ls h hl => ?_)
            refine lv_goto (tgt := 2) hC.x hC.b dX11_looked_54 (by decide) ?_
            exact ih1 x6 m4 H locs ls (ap2 es1 h) hH (lv_sub hl [1, 0] rfl)
          · refine lv_iload_n hC.x hC.b dX11_looked_49 rfl (lv_at hl 1 rfl) ?_
            rw [hQ]
            exact e_i hC hr hH h dX11_looked_50
  exact hl1 _ (0 : Int32) mem H locs ls h hH (lv_sub hl [1, 0] rfl)
theorem v_X1_13_begin {p : Program} {l : Launch} {e : Env} {R : Room} {s : State} {m : MethodId} {args : Array Value} {below : List Frame} {meth : Method} {c : Code} {H : Heap} {locs : List Loc} {Q : State → Prop} {cc : ByteArray} {nL : Nat} {pc : Nat} {ls : Array Slot} {rest : List Value} {D : va_G} {cy : Nat → ClassId} {ad : Nat → Nat} {L : List Nat} {mem mem' : gMem} {E : State → Prop} {fr0 lo0 w : Nat} {x0 : Int32}  (hC : gC p s m args meth c cc nL RX1 D cy) (hX : gX (gA ad L) s E) (hk : gOk ad L) (hL : ∀ o ∈ LX0, o ∈ L) (hE : gEok ad L E) (hF : gF ad L (gA ad L)) (hH : gH D cy shX ad L (gA ad L) s.heap mem H locs) (hw : wok L w) (hk0 : wkd w = 1 ∨ wkd w = 4) (hf : f_X9_begin L mem w x0 = some mem') (hls : ls.size = nL) (hR : R = gRm fr0 lo0) (h1 : 1 ≤ fr0) (h2 : 21 ≤ lo0) (hW : (rest.map fun v => v.category).sum ≤ 8) (hdg : decode cc pc = .ok (.invokevirtual 13, 3))
    (kk : ∀ (H1 : Heap) (locs1 : List Loc), gH D cy shX ad L (gA ad L) s.heap mem' H1 locs1 → W p l e R s m args below meth c H1 locs1 0 0 Q (F0 m (pc + 3) ls rest)) : W p l e R s m args below meth c H locs 0 0 Q (F0 m pc ls (.int x0 :: .ref (ad w) :: rest)) := by
  by_cases hc : wkd w = 1
  · exact c_U0 (As := [.int x0]) (rest := rest) (o := w) (x := ⟨"OnTiptoe$Heavy", "begin", "(I)V"⟩) (owner := "OnTiptoe$Walker") (b0 := cX9_begin) (m0 := 2) (r0 := none) (q := (RX1, TX1, 6)) hC hX hE.2.1 hF hH (c_X9_begin (l := l) (mem := mem) hk hL hE hw hf) kw1182 kw1183 kw1184 kw221 kw1135 kw1134 kw1134 kw1135 (by decide +kernel) a_X9_begin.2 hw.2.2.2.1 (sWk hw hc) rfl rfl hls (rmk hR (by omega) (by omega)) hW hdg kk
  have hz1 := hc
  clear hc
  have hc : wkd w = 4 := by omega
  exact c_U0 (As := [.int x0]) (rest := rest) (o := w) (x := ⟨"OnTiptoe$Heavy", "begin", "(I)V"⟩) (owner := "OnTiptoe$Walker") (b0 := cX9_begin) (m0 := 2) (r0 := none) (q := (RX7, TX7, 6)) hC hX hE.2.1 hF hH (c_X9_begin (l := l) (mem := mem) hk hL hE hw hf) kw1182 kw1183 kw1185 kw221 kw1135 kw1134 kw1134 kw1135 (by decide +kernel) a_X9_begin.2 hw.2.2.2.1 (sWk hw hc) rfl rfl hls (rmk hR (by omega) (by omega)) hW hdg kk
theorem a_X9_actGoes : noMH yX9_actGoes.cls ∧ arity yX9_actGoes.desc 1 := by decide +kernel
theorem u_X1_17 {p : Program} {l : Launch} {e : Env} {R : Room} {s : State} {m : MethodId} {args : Array Value} {below : List Frame} {meth : Method} {c : Code} {H : Heap} {locs : List Loc} {cells slots : Nat} {Q : State → Prop} {cc : ByteArray} {nL : Nat} {pc : Nat} {ls : Array Slot} {rest As : List Value} {D : va_G} {cy : Nat → ClassId} {ad : Nat → Nat} {L : List Nat} {A : Nat → Prop} {mem mem' : gMem} {E : State → Prop} {fr lo w : Nat} {v : Value} (hC : gC p s m args meth c cc nL RX1 D cy) (hX : gX A s E) (hB : eBl E) (hF : gF ad L A) (hH : gH D cy shX ad L A s.heap mem H locs) (hM : gMet l yX9_actGoes cX9_actGoes 2 (some .int) fr lo E D cy shX ad L (.ref (ad w) :: As) mem mem' (some v)) (hw : wok L w) (hk : wkd w = 1 ∨ wkd w = 4) (hn : As.length = 1) (hls : ls.size = nL) (hR : fr + 1 ≤ R.frames ∧ 8 + (2 + 11) + lo ≤ R.locals ∧ cells ≤ R.cells ∧ slots ≤ R.slots) (hW : (rest.map fun v => v.category).sum ≤ 8) (hdg : decode cc pc = .ok (.invokespecial 17, 3))
    (kk : ∀ (H1 : Heap) (locs1 : List Loc), gH D cy shX ad L A s.heap mem' H1 locs1 → W p l e R s m args below meth c H1 locs1 cells slots Q (F0 m (pc + 3) ls (v :: rest))) : W p l e R s m args below meth c H locs cells slots Q (F0 m pc ls (As.reverse ++ .ref (ad w) :: rest)) := by
  rcases hk with hk | hk
  · exact c_SU1 (q := (RX1, TX1, 6)) hC hX hB hF hH hM kw1186 kw1172 kw1187 kw221 kw1175 kw1174 (by decide +kernel) a_X9_actGoes.2 hw.2.2.2.1 (sWk hw hk) rfl hn hls hR hW hdg kk
  · exact c_SU1 (q := (RX7, TX7, 6)) hC hX hB hF hH hM kw1186 kw1172 kw1187 kw221 kw1175 kw1174 (by decide +kernel) a_X9_actGoes.2 hw.2.2.2.1 (sWk hw hk) rfl hn hls hR hW hdg kk
def f_X1_actGoes (L : List Nat) (mem : gMem) (w0 : Nat) (p0 : Int32) : Option (Int32 × gMem) := bd (f_X9_begin L mem w0 (20 : Int32)) fun (m1 : gMem) => bd2 (f_X9_actGoes L m1 w0 p0) fun (x3 : Int32) (m2 : gMem) => some ((x3 ^^^ (6 : Int32)), m2)
set_option maxRecDepth 100000 in
set_option maxHeartbeats 4000000 in
theorem c_X1_actGoes {l : Launch} {E : State → Prop} {D : va_G} {cy : Nat → ClassId} {ad : Nat → Nat} {L : List Nat} {mem : gMem} {w0 : Nat} {p0 : Int32} {rv : Int32} {memz : gMem} (hk : gOk ad L) (hL : ∀ o ∈ LX0, o ∈ L) (hE : gEok ad L E) (hw0 : wok L w0) (hkd : wkd w0 = 1 ∨ wkd w0 = 4) (h : f_X1_actGoes L mem w0 p0 = some (rv, memz)) : gMet l yX1_actGoes cX1_actGoes 2 (some .int) 4 84 E D cy shX ad L [.ref (ad w0), .int p0] mem memz (some (.int rv)) := by
  refine g_go (own := RX1) (by decide +kernel) rfl hE (Nat.le_of_ble_eq_true rfl) ?_
  intro p e s m args below meth c R Q hargs hR hQ hEs hC hr hX H locs ls hH hl
  have hF := gF_of hk
  have hl : lv_has ls 2 [(0, .ref (ad w0)), (1, .int p0)] := hl
  refine lv_aload_n hC.x hC.b dX1_actGoes_0 rfl (lv_at hl 0 rfl) ?_
  refine lv_bipush (v := 20) hC.x hC.b dX1_actGoes_1 rfl ?_
  obtain ⟨m1, hf1, h⟩ := bd_e h
  refine v_X1_13_begin hC hX hk hL hE hF hH hw0 hkd hf1 hl.1 hR (by decide) (by decide) (Nat.le_of_ble_eq_true rfl) dX1_actGoes_3 (fun H locs hH => ?_)
  refine lv_aload_n hC.x hC.b dX1_actGoes_6 rfl (lv_at hl 0 rfl) ?_
  refine lv_iload_n hC.x hC.b dX1_actGoes_7 rfl (lv_at hl 1 rfl) ?_
  obtain ⟨x3, m2, hf3, h⟩ := bd2_e h
  refine u_X1_17 (As := [.int p0]) (rest := []) hC hX hE.2.1 hF hH (c_X9_actGoes (l := l) hk hL hE hw0 hf3) hw0 hkd rfl hl.1 (rmk hR (by decide) (by decide)) (Nat.le_of_ble_eq_true rfl) dX1_actGoes_8 (fun H locs hH => ?_)
  refine lv_bipush (v := 6) hC.x hC.b dX1_actGoes_11 rfl ?_
  refine lv_ixor hC.x hC.b dX1_actGoes_13 ?_
  rw [hQ]
  exact e_i hC hr hH h dX1_actGoes_14
theorem v_X2_100_kind {p : Program} {l : Launch} {e : Env} {R : Room} {s : State} {m : MethodId} {args : Array Value} {below : List Frame} {meth : Method} {c : Code} {H : Heap} {locs : List Loc} {Q : State → Prop} {cc : ByteArray} {nL : Nat} {pc : Nat} {ls : Array Slot} {rest : List Value} {D : va_G} {cy : Nat → ClassId} {ad : Nat → Nat} {L : List Nat} {mem : gMem} {E : State → Prop} {fr0 lo0 w : Nat} {rv : Int32} (hC : gC p s m args meth c cc nL RX2 D cy) (hX : gX (gA ad L) s E) (hk : gOk ad L) (hL : ∀ o ∈ LX0, o ∈ L) (hE : gEok ad L E) (hF : gF ad L (gA ad L)) (hH : gH D cy shX ad L (gA ad L) s.heap mem H locs) (hw : wok L w) (hf : d_kind L mem w  = some rv) (hls : ls.size = nL) (hR : R = gRm fr0 lo0) (h1 : 1 ≤ fr0) (h2 : 20 ≤ lo0) (hW : (rest.map fun v => v.category).sum ≤ 8) (hdg : decode cc pc = .ok (.invokevirtual 100, 3))
    (kk : ∀ (H1 : Heap) (locs1 : List Loc), gH D cy shX ad L (gA ad L) s.heap mem H1 locs1 → W p l e R s m args below meth c H1 locs1 0 0 Q (F0 m (pc + 3) ls (.int rv :: rest))) : W p l e R s m args below meth c H locs 0 0 Q (F0 m pc ls (.ref (ad w) :: rest)) := by
  have hk7 := hw.2.2.1
  unfold d_kind at hf
  by_cases hc : wkd w = 0
  · have hf := ifp hc hf
    exact c_U1 (As := []) (rest := rest) (o := w) (x := ⟨"OnTiptoe$Walker", "kind", "()I"⟩) (owner := "OnTiptoe$Walker") (b0 := cX9_kind) (m0 := 1) (r0 := (some .int)) (q := (RX9, TX9, 6)) hC hX hE.2.1 hF hH (c_X9_kind (l := l) (mem := mem) hk hL hE hw hf) kw301 kw272 kw295 kw221 kw277 kw273 kw273 kw277 (by decide +kernel) a_X9_kind.2 hw.2.2.2.1 (sWk hw hc) rfl rfl hls (rmk hR (by omega) (by omega)) hW hdg kk
  have hf := ifn hc hf
  have hz0 := hc
  clear hc
  by_cases hc : wkd w = 1
  · have hf := ifp hc hf
    exact c_U1 (As := []) (rest := rest) (o := w) (x := ⟨"OnTiptoe$Walker", "kind", "()I"⟩) (owner := "OnTiptoe$Walker") (b0 := cX9_kind) (m0 := 1) (r0 := (some .int)) (q := (RX1, TX1, 6)) hC hX hE.2.1 hF hH (c_X1_kind (l := l) (mem := mem) hk hL hE hw (by omega) hf) kw301 kw272 kw278 kw204 kw280 kw279 kw273 kw277 (by decide +kernel) a_X1_kind.2 hw.2.2.2.1 (sWk hw hc) rfl rfl hls (rmk hR (by omega) (by omega)) hW hdg kk
  have hf := ifn hc hf
  have hz1 := hc
  clear hc
  by_cases hc : wkd w = 2
  · have hf := ifp hc hf
    exact c_U1 (As := []) (rest := rest) (o := w) (x := ⟨"OnTiptoe$Walker", "kind", "()I"⟩) (owner := "OnTiptoe$Walker") (b0 := cX9_kind) (m0 := 1) (r0 := (some .int)) (q := (RX6, TX6, 6)) hC hX hE.2.1 hF hH (c_X6_kind (l := l) (mem := mem) hk hL hE hw (by omega) hf) kw301 kw272 kw284 kw207 kw286 kw285 kw273 kw277 (by decide +kernel) a_X6_kind.2 hw.2.2.2.1 (sWk hw hc) rfl rfl hls (rmk hR (by omega) (by omega)) hW hdg kk
  have hf := ifn hc hf
  have hz2 := hc
  clear hc
  by_cases hc : wkd w = 3
  · have hf := ifp hc hf
    exact c_U1 (As := []) (rest := rest) (o := w) (x := ⟨"OnTiptoe$Walker", "kind", "()I"⟩) (owner := "OnTiptoe$Walker") (b0 := cX9_kind) (m0 := 1) (r0 := (some .int)) (q := (RX5, TX5, 6)) hC hX hE.2.1 hF hH (c_X5_kind (l := l) (mem := mem) hk hL hE hw (by omega) hf) kw301 kw272 kw281 kw210 kw283 kw282 kw273 kw277 (by decide +kernel) a_X5_kind.2 hw.2.2.2.1 (sWk hw hc) rfl rfl hls (rmk hR (by omega) (by omega)) hW hdg kk
  have hf := ifn hc hf
  have hz3 := hc
  clear hc
  by_cases hc : wkd w = 4
  · have hf := ifp hc hf
    exact c_U1 (As := []) (rest := rest) (o := w) (x := ⟨"OnTiptoe$Walker", "kind", "()I"⟩) (owner := "OnTiptoe$Walker") (b0 := cX9_kind) (m0 := 1) (r0 := (some .int)) (q := (RX7, TX7, 6)) hC hX hE.2.1 hF hH (c_X7_kind (l := l) (mem := mem) hk hL hE hw (by omega) hf) kw301 kw272 kw287 kw213 kw289 kw288 kw273 kw277 (by decide +kernel) a_X7_kind.2 hw.2.2.2.1 (sWk hw hc) rfl rfl hls (rmk hR (by omega) (by omega)) hW hdg kk
  have hf := ifn hc hf
  have hz4 := hc
  clear hc
  by_cases hc : wkd w = 5
  · have hf := ifp hc hf
    exact c_U1 (As := []) (rest := rest) (o := w) (x := ⟨"OnTiptoe$Walker", "kind", "()I"⟩) (owner := "OnTiptoe$Walker") (b0 := cX9_kind) (m0 := 1) (r0 := (some .int)) (q := (RX0, TX0, 6)) hC hX hE.2.1 hF hH (c_X0_kind (l := l) (mem := mem) hk hL hE hw (by omega) hf) kw301 kw272 kw274 kw216 kw276 kw275 kw273 kw277 (by decide +kernel) a_X0_kind.2 hw.2.2.2.1 (sWk hw hc) rfl rfl hls (rmk hR (by omega) (by omega)) hW hdg kk
  have hf := ifn hc hf
  have hz5 := hc
  clear hc
  have hc : wkd w = 6 := by omega
  exact c_U1 (As := []) (rest := rest) (o := w) (x := ⟨"OnTiptoe$Walker", "kind", "()I"⟩) (owner := "OnTiptoe$Walker") (b0 := cX9_kind) (m0 := 1) (r0 := (some .int)) (q := (RX8, TX8, 8)) hC hX hE.2.1 hF hH (c_X8_kind (l := l) (mem := mem) hk hL hE hw (by omega) hf) kw301 kw272 kw290 kw219 kw292 kw291 kw273 kw277 (by decide +kernel) a_X8_kind.2 hw.2.2.2.1 (sWk hw hc) rfl rfl hls (rmk hR (by omega) (by omega)) hW hdg kk
theorem a_X2_loud : noMH yX2_loud.cls ∧ arity yX2_loud.desc 5 := by decide +kernel
def d_noise (L : List Nat) (mem : gMem) (w : Nat) (x0 : Int32) (x1 : Int32) : Option Int32 := if wkd w = 0 then f_X9_noise L w x0 x1 else if wkd w = 1 then f_X1_noise L mem w x0 x1 else if wkd w = 2 then f_X6_noise L w x0 x1 else if wkd w = 3 then f_X5_noise L w x0 x1 else if wkd w = 4 then f_X7_noise L mem w x0 x1 else if wkd w = 5 then f_X0_noise L mem w x0 x1 else f_X8_noise L mem w x0 x1
theorem a_X9_noise : noMH yX9_noise.cls ∧ arity yX9_noise.desc 2 := by decide +kernel
theorem a_X7_noise : noMH yX7_noise.cls ∧ arity yX7_noise.desc 2 := by decide +kernel
theorem a_X0_noise : noMH yX0_noise.cls ∧ arity yX0_noise.desc 2 := by decide +kernel
theorem a_X8_noise : noMH yX8_noise.cls ∧ arity yX8_noise.desc 2 := by decide +kernel
theorem v_X2_110_noise {p : Program} {l : Launch} {e : Env} {R : Room} {s : State} {m : MethodId} {args : Array Value} {below : List Frame} {meth : Method} {c : Code} {H : Heap} {locs : List Loc} {Q : State → Prop} {cc : ByteArray} {nL : Nat} {pc : Nat} {ls : Array Slot} {rest : List Value} {D : va_G} {cy : Nat → ClassId} {ad : Nat → Nat} {L : List Nat} {mem : gMem} {E : State → Prop} {fr0 lo0 w : Nat} {x0 x1 : Int32} {rv : Int32} (hC : gC p s m args meth c cc nL RX2 D cy) (hX : gX (gA ad L) s E) (hk : gOk ad L) (hL : ∀ o ∈ LX0, o ∈ L) (hE : gEok ad L E) (hF : gF ad L (gA ad L)) (hH : gH D cy shX ad L (gA ad L) s.heap mem H locs) (hw : wok L w) (hf : d_noise L mem w x0 x1 = some rv) (hls : ls.size = nL) (hR : R = gRm fr0 lo0) (h1 : 3 ≤ fr0) (h2 : 65 ≤ lo0) (hW : (rest.map fun v => v.category).sum ≤ 8) (hdg : decode cc pc = .ok (.invokevirtual 110, 3))
    (kk : ∀ (H1 : Heap) (locs1 : List Loc), gH D cy shX ad L (gA ad L) s.heap mem H1 locs1 → W p l e R s m args below meth c H1 locs1 0 0 Q (F0 m (pc + 3) ls (.int rv :: rest))) : W p l e R s m args below meth c H locs 0 0 Q (F0 m pc ls (.int x1 :: .int x0 :: .ref (ad w) :: rest)) := by
  have hk7 := hw.2.2.1
  unfold d_noise at hf
  by_cases hc : wkd w = 0
  · have hf := ifp hc hf
    exact c_U1 (As := [.int x0, .int x1]) (rest := rest) (o := w) (x := ⟨"OnTiptoe$Walker", "noise", "(II)I"⟩) (owner := "OnTiptoe$Walker") (b0 := cX9_noise) (m0 := 3) (r0 := (some .int)) (q := (RX9, TX9, 6)) hC hX hE.2.1 hF hH (c_X9_noise (l := l) (mem := mem) hk hL hE hw hf) kw329 kw330 kw371 kw221 kw342 kw331 kw331 kw342 (by decide +kernel) a_X9_noise.2 hw.2.2.2.1 (sWk hw hc) rfl rfl hls (rmk hR (by omega) (by omega)) hW hdg kk
  have hf := ifn hc hf
  have hz0 := hc
  clear hc
  by_cases hc : wkd w = 1
  · have hf := ifp hc hf
    exact c_U1 (As := [.int x0, .int x1]) (rest := rest) (o := w) (x := ⟨"OnTiptoe$Walker", "noise", "(II)I"⟩) (owner := "OnTiptoe$Walker") (b0 := cX9_noise) (m0 := 3) (r0 := (some .int)) (q := (RX1, TX1, 6)) hC hX hE.2.1 hF hH (c_X1_noise (l := l) (mem := mem) hk hL hE hw (by omega) hf) kw329 kw330 kw343 kw204 kw345 kw344 kw331 kw342 (by decide +kernel) a_X1_noise.2 hw.2.2.2.1 (sWk hw hc) rfl rfl hls (rmk hR (by omega) (by omega)) hW hdg kk
  have hf := ifn hc hf
  have hz1 := hc
  clear hc
  by_cases hc : wkd w = 2
  · have hf := ifp hc hf
    exact c_U1 (As := [.int x0, .int x1]) (rest := rest) (o := w) (x := ⟨"OnTiptoe$Walker", "noise", "(II)I"⟩) (owner := "OnTiptoe$Walker") (b0 := cX9_noise) (m0 := 3) (r0 := (some .int)) (q := (RX6, TX6, 6)) hC hX hE.2.1 hF hH (c_X6_noise (l := l) (mem := mem) hk hL hE hw (by omega) hf) kw329 kw330 kw352 kw207 kw341 kw340 kw331 kw342 (by decide +kernel) a_X6_noise.2 hw.2.2.2.1 (sWk hw hc) rfl rfl hls (rmk hR (by omega) (by omega)) hW hdg kk
  have hf := ifn hc hf
  have hz2 := hc
  clear hc
  by_cases hc : wkd w = 3
  · have hf := ifp hc hf
    exact c_U1 (As := [.int x0, .int x1]) (rest := rest) (o := w) (x := ⟨"OnTiptoe$Walker", "noise", "(II)I"⟩) (owner := "OnTiptoe$Walker") (b0 := cX9_noise) (m0 := 3) (r0 := (some .int)) (q := (RX5, TX5, 6)) hC hX hE.2.1 hF hH (c_X5_noise (l := l) (mem := mem) hk hL hE hw (by omega) hf) kw329 kw330 kw348 kw210 kw350 kw349 kw331 kw342 (by decide +kernel) a_X5_noise.2 hw.2.2.2.1 (sWk hw hc) rfl rfl hls (rmk hR (by omega) (by omega)) hW hdg kk
  have hf := ifn hc hf
  have hz3 := hc
  clear hc
  by_cases hc : wkd w = 4
  · have hf := ifp hc hf
    exact c_U1 (As := [.int x0, .int x1]) (rest := rest) (o := w) (x := ⟨"OnTiptoe$Walker", "noise", "(II)I"⟩) (owner := "OnTiptoe$Walker") (b0 := cX9_noise) (m0 := 3) (r0 := (some .int)) (q := (RX7, TX7, 6)) hC hX hE.2.1 hF hH (c_X7_noise (l := l) (mem := mem) hk hL hE hw (by omega) hf) kw329 kw330 kw353 kw213 kw355 kw354 kw331 kw342 (by decide +kernel) a_X7_noise.2 hw.2.2.2.1 (sWk hw hc) rfl rfl hls (rmk hR (by omega) (by omega)) hW hdg kk
  have hf := ifn hc hf
  have hz4 := hc
  clear hc
  by_cases hc : wkd w = 5
  · have hf := ifp hc hf
    exact c_U1 (As := [.int x0, .int x1]) (rest := rest) (o := w) (x := ⟨"OnTiptoe$Walker", "noise", "(II)I"⟩) (owner := "OnTiptoe$Walker") (b0 := cX9_noise) (m0 := 3) (r0 := (some .int)) (q := (RX0, TX0, 6)) hC hX hE.2.1 hF hH (c_X0_noise (l := l) (mem := mem) hk hL hE hw (by omega) hf) kw329 kw330 kw332 kw216 kw334 kw333 kw331 kw342 (by decide +kernel) a_X0_noise.2 hw.2.2.2.1 (sWk hw hc) rfl rfl hls (rmk hR (by omega) (by omega)) hW hdg kk
  have hf := ifn hc hf
  have hz5 := hc
  clear hc
  have hc : wkd w = 6 := by omega
  exact c_U1 (As := [.int x0, .int x1]) (rest := rest) (o := w) (x := ⟨"OnTiptoe$Walker", "noise", "(II)I"⟩) (owner := "OnTiptoe$Walker") (b0 := cX9_noise) (m0 := 3) (r0 := (some .int)) (q := (RX8, TX8, 8)) hC hX hE.2.1 hF hH (c_X8_noise (l := l) (mem := mem) hk hL hE hw (by omega) hf) kw329 kw330 kw359 kw219 kw361 kw360 kw331 kw342 (by decide +kernel) a_X8_noise.2 hw.2.2.2.1 (sWk hw hc) rfl rfl hls (rmk hR (by omega) (by omega)) hW hdg kk
def f_X2_noise (L : List Nat) (mem : gMem) (p0 : Nat) (p1 : Int32) (p2 : Int32) : Option (Int32 × gMem) := bd (f_X11_isBoard p1) fun (x1 : Int32) => if x1 = 0 then (some ((0 : Int32), mem)) else if okI p1 12 then bd (f_X2_toyOn L mem p1) fun (x2 : Int32) => bd (d_kind L mem p0) fun (x3 : Int32) => bd2 (f_X2_loud L mem p1 (gI mem 11 (ix p1)) x2 x3 p2) fun (x5 : Int32) (m4 : gMem) => bd (d_noise L m4 p0 x5 p2) fun (x6 : Int32) => some (x6, m4) else none
set_option maxRecDepth 100000 in
set_option maxHeartbeats 4000000 in
theorem c_X2_noise {l : Launch} {E : State → Prop} {D : va_G} {cy : Nat → ClassId} {ad : Nat → Nat} {L : List Nat} {mem : gMem} {p0 : Nat} {p1 : Int32} {p2 : Int32} {rv : Int32} {memz : gMem} (hk : gOk ad L) (hL : ∀ o ∈ LX0, o ∈ L) (hE : gEok ad L E) (hp0 : wok L p0) (h : f_X2_noise L mem p0 p1 p2 = some (rv, memz)) : gMet l yX2_noise cX2_noise 4 (some .int) 4 103 E D cy shX ad L [.ref (ad 10), .ref (ad p0), .int p1, .int p2] mem memz (some (.int rv)) := by
  refine g_go (own := RX2) (by decide +kernel) rfl hE (Nat.le_of_ble_eq_true rfl) ?_
  intro p e s m args below meth c R Q hargs hR hQ hEs hC hr hX H locs ls hH hl
  have hF := gF_of hk
  have hl : lv_has ls 4 [(0, .ref (ad 10)), (1, .ref (ad p0)), (2, .int p1), (3, .int p2)] := hl
  refine lv_iload_n hC.x hC.b dX2_noise_0 rfl (lv_at hl 2 rfl) ?_
  obtain ⟨x1, hf1, h⟩ := bd_e h
  refine c_SN1 (As := [.int p1]) (rest := []) (host := RX11) hC hX hE.2.1 hF hH (c_X11_isBoard (l := l) hk hL hE hf1) ((hE.2.2 _ hEs).1 (RX2, 92, yX11_isBoard, RX11) (by decide)) kw157 kw2 kw158 a_X11_isBoard.1 a_X11_isBoard.2 rfl hl.1 (rmk hR (by decide) (by decide)) (Nat.le_of_ble_eq_true rfl) dX2_noise_1 (fun H locs hH => ?_)
  refine b_if_ne (tgt := 9) hC dX2_noise_4 (by decide) h (fun h => ?_) (fun h => ?_)
  · refine lv_aload_n hC.x hC.b dX2_noise_9 rfl (lv_at hl 1 rfl) ?_
    refine lv_aload_n hC.x hC.b dX2_noise_10 rfl (lv_at hl 0 rfl) ?_
    refine lv_iload_n hC.x hC.b dX2_noise_11 rfl (lv_at hl 2 rfl) ?_
    refine lv_aload_n hC.x hC.b dX2_noise_12 rfl (lv_at hl 0 rfl) ?_
    refine r_getc (z := 11) hC hH fl_X2_9_2 (hL _ mX10) sX10 rfl dX2_noise_13 ?_
    refine lv_iload_n hC.x hC.b dX2_noise_16 rfl (lv_at hl 2 rfl) ?_
    refine r_iald hC hH (hL _ mX11) sX11 h dX2_noise_17 (fun h => ?_)
    refine lv_aload_n hC.x hC.b dX2_noise_18 rfl (lv_at hl 0 rfl) ?_
    refine lv_iload_n hC.x hC.b dX2_noise_19 rfl (lv_at hl 2 rfl) ?_
    obtain ⟨x2, hf2, h⟩ := bd_e h
    refine c_V1 (As := [.int p1]) (rest := [.int (gI mem 11 (ix p1)), .int p1, .ref (ad 10), .ref (ad p0)]) (o := 10) (q := (RX2, TX2, 17)) hC hX hE.2.1 hF hH (c_X2_toyOn (l := l) hk hL hE hf2) kw300 kw177 kw178 kw15 kw179 a_X2_toyOn.1 a_X2_toyOn.2 (hL _ mX10) sX10 rfl rfl hl.1 (rmk hR (by decide) (by decide)) (Nat.le_of_ble_eq_true rfl) dX2_noise_20 (fun H locs hH => ?_)
    refine lv_aload_n hC.x hC.b dX2_noise_23 rfl (lv_at hl 1 rfl) ?_
    obtain ⟨x3, hf3, h⟩ := bd_e h
    refine v_X2_100_kind hC hX hk hL hE hF hH hp0 hf3 hl.1 hR (by decide) (by decide) (Nat.le_of_ble_eq_true rfl) dX2_noise_24 (fun H locs hH => ?_)
    refine lv_iload_n hC.x hC.b dX2_noise_27 rfl (lv_at hl 3 rfl) ?_
    obtain ⟨x5, m4, hf5, h⟩ := bd2_e h
    refine c_V1 (As := [.int p1, .int (gI mem 11 (ix p1)), .int x2, .int x3, .int p2]) (rest := [.ref (ad p0)]) (o := 10) (q := (RX2, TX2, 17)) hC hX hE.2.1 hF hH (c_X2_loud (l := l) hk hL hE hf5) kw303 kw304 kw305 kw15 kw306 a_X2_loud.1 a_X2_loud.2 (hL _ mX10) sX10 rfl rfl hl.1 (rmk hR (by decide) (by decide)) (Nat.le_of_ble_eq_true rfl) dX2_noise_28 (fun H locs hH => ?_)
    refine lv_iload_n hC.x hC.b dX2_noise_31 rfl (lv_at hl 3 rfl) ?_
    obtain ⟨x6, hf6, h⟩ := bd_e h
    refine v_X2_110_noise hC hX hk hL hE hF hH hp0 hf6 hl.1 hR (by decide) (by decide) (Nat.le_of_ble_eq_true rfl) dX2_noise_32 (fun H locs hH => ?_)
    rw [hQ]
    exact e_i hC hr hH h dX2_noise_35
  · refine lv_iconst (v := 0) hC.x hC.b dX2_noise_7 rfl ?_
    rw [hQ]
    exact e_i hC hr hH h dX2_noise_8
theorem a_J0_charAt_5068e : noMH yJ0_charAt_5068e.cls ∧ arity yJ0_charAt_5068e.desc 1 := by decide +kernel
theorem a_X4_skip : noMH yX4_skip.cls ∧ arity yX4_skip.desc 1 := by decide +kernel
def s_X4_skipAll0_4 (L : List Nat) (self1 : Int32 → Int32 → gMem → Option (Int32 × gMem)) (x2 : Int32) (x3 : Int32) (m4 : gMem) : Option (Int32 × gMem) := bd (f_J0_length_8abf5 0) fun (x5 : Int32) => if x5 ≤ x3 then (if isB x2 then some (x2, m4) else none) else if x2 = 0 then (if isB x2 then some (x2, m4) else none) else bd (f_J0_charAt_5068e 0 x3) fun (x6 : Int32) => bd2 (f_X4_skip L m4 x6) fun (x8 : Int32) (m7 : gMem) => lt1 (x3 + (1 : Int32)) fun (x9 : Int32) => (self1 x8 x9 m7)
def f_X4_skipAll0 (L : List Nat) (mem : gMem) : Option (Int32 × gMem) := lq3 (s_X4_skipAll0_4 L) 1000 (1 : Int32) (0 : Int32) mem
set_option maxRecDepth 100000 in
set_option maxHeartbeats 4000000 in
theorem c_X4_skipAll0 {l : Launch} {E : State → Prop} {D : va_G} {cy : Nat → ClassId} {ad : Nat → Nat} {L : List Nat} {adK adV : Nat → Nat} {mem : gMem} {rv : Int32} {memz : gMem} (hk : gOk ad L) (hL : ∀ o ∈ LX0, o ∈ L) (hE : gEok ad L E) (hSs : ∀ s : State, E s → gS (gA ad L) adK adV s) (h : f_X4_skipAll0 L mem = some (rv, memz)) : gMet l yX4_skipAll cX4_skipAll 4 (some .boolean) 4 85 E D cy shX ad L [.ref (ad 30), .ref (adK 0)] mem memz (some (.int rv)) := by
  refine g_go (own := RX4) (by decide +kernel) rfl hE (Nat.le_of_ble_eq_true rfl) ?_
  intro p e s m args below meth c R Q hargs hR hQ hEs hC hr hX H locs ls hH hl
  have hF := gF_of hk
  have hl : lv_has ls 4 [(0, .ref (ad 30)), (1, .ref (adK 0))] := hl
  refine lv_iconst (v := 1) hC.x hC.b dX4_skipAll_0 rfl ?_
  refine lv_istore_n (lv' := [(2, .int (1 : Int32)), (0, .ref (ad 30)), (1, .ref (adK 0))]) hC.x hC.b dX4_skipAll_1 rfl hl (by decide) rfl (fun ls hl => ?_)
  refine lv_iconst (v := 0) hC.x hC.b dX4_skipAll_2 rfl ?_
  refine lv_istore_n (lv' := [(3, .int (0 : Int32)), (2, .int (1 : Int32)), (0, .ref (ad 30)), (1, .ref (adK 0))]) hC.x hC.b dX4_skipAll_3 rfl hl (by decide) rfl (fun ls hl => ?_)
  have hl1 : ∀ (n : Nat) (x2 : Int32) (x3 : Int32) (m4 : gMem) (H : Heap) (locs : List Loc) (ls : Array Slot), lq3 (s_X4_skipAll0_4 L) n x2 x3 m4 = some (rv, memz) → gH D cy shX ad L (gA ad L) s.heap m4 H locs → lv_has ls 4 [(0, .ref (ad 30)), (1, .ref (adK 0)), (2, .int x2), (3, .int x3)] → W p l e R s m args below meth c H locs 0 0 Q (F0 m 4 ls []) := by
    intro n
    induction n with
    | zero => intro x2 x3 m4 H locs ls h _ _; exact lq3_0 h
    | succ n ih1 =>
      intro x2 x3 m4 H locs ls h hH hl
      obtain ⟨self1, es1, h⟩ := lq3_s h
      refine lv_iload_n hC.x hC.b dX4_skipAll_4 rfl (lv_at hl 3 rfl) ?_
      refine lv_aload_n hC.x hC.b dX4_skipAll_5 rfl (lv_at hl 1 rfl) ?_
      obtain ⟨x5, hf5, h⟩ := bd_e h
      refine c_VR1 (As := []) (rest := [.int x3]) (i := 0) hC hX hE.2.1 hF (hSs _ hEs) (by decide) hH (c_J0_length_8abf5 (l := l) hk hL hE hSs (by decide) hf5) kw477 kw478 kw479 kw480 kw481 a_J0_length_8abf5.1 a_J0_length_8abf5.2 rfl hl.1 (rmk hR (by decide) (by decide)) (Nat.le_of_ble_eq_true rfl) dX4_skipAll_6 (fun H locs hH => ?_)
      refine b_ic_ge (tgt := 32) hC dX4_skipAll_9 (by decide) h (fun h => ?_) (fun h => ?_)
      · refine lv_iload_n hC.x hC.b dX4_skipAll_32 rfl (lv_at hl 2 rfl) ?_
        rw [hQ]
        exact e_z hC hr hH h dX4_skipAll_33
      · refine lv_iload_n hC.x hC.b dX4_skipAll_12 rfl (lv_at hl 2 rfl) ?_
        refine b_if_eq (tgt := 32) hC dX4_skipAll_13 (by decide) h (fun h => ?_) (fun h => ?_)
        · refine lv_iload_n hC.x hC.b dX4_skipAll_32 rfl (lv_at hl 2 rfl) ?_
          rw [hQ]
          exact e_z hC hr hH h dX4_skipAll_33
        · refine lv_aload_n hC.x hC.b dX4_skipAll_16 rfl (lv_at hl 0 rfl) ?_
          refine lv_aload_n hC.x hC.b dX4_skipAll_17 rfl (lv_at hl 1 rfl) ?_
          refine lv_iload_n hC.x hC.b dX4_skipAll_18 rfl (lv_at hl 3 rfl) ?_
          obtain ⟨x6, hf6, h⟩ := bd_e h
          refine c_VR1 (As := [.int x3]) (rest := [.ref (ad 30)]) (i := 0) hC hX hE.2.1 hF (hSs _ hEs) (by decide) hH (c_J0_charAt_5068e (l := l) hk hL hE hSs (by decide) hf6) kw489 kw490 kw491 kw480 kw492 a_J0_charAt_5068e.1 a_J0_charAt_5068e.2 rfl hl.1 (rmk hR (by decide) (by decide)) (Nat.le_of_ble_eq_true rfl) dX4_skipAll_19 (fun H locs hH => ?_)
          obtain ⟨x8, m7, hf8, h⟩ := bd2_e h
          refine c_V1 (As := [.int x6]) (rest := []) (o := 30) (q := (RX4, TX4, 4)) hC hX hE.2.1 hF hH (c_X4_skip (l := l) hk hL hE hf8) kw526 kw527 kw528 kw24 kw529 a_X4_skip.1 a_X4_skip.2 (hL _ mX30) sX30 rfl rfl hl.1 (rmk hR (by decide) (by decide)) (Nat.le_of_ble_eq_true rfl) dX4_skipAll_22 (fun H locs hH => ?_)
          refine lv_istore_n (lv' := [(2, .int x8), (0, .ref (ad 30)), (1, .ref (adK 0)), (3, .int x3)]) hC.x hC.b dX4_skipAll_25 rfl hl (by decide) rfl (fun ls hl => ?_)
          refine i_inc (lv' := fun x9 => [(3, .int x9), (2, .int x8), (0, .ref (ad 30)), (1, .ref (adK 0))]) hC dX4_skipAll_26 hl (k := 3) rfl (by decide) (fun _ => rfl) (z := 1) rfl h (fun x9 ls h hl => ?_)
          refine lv_goto (tgt := 4) hC.x hC.b dX4_skipAll_29 (by decide) ?_
          exact ih1 x8 x9 m7 H locs ls (ap3 es1 h) hH (lv_sub hl [2, 3, 1, 0] rfl)
  exact hl1 _ (1 : Int32) (0 : Int32) mem H locs ls h hH (lv_sub hl [2, 3, 1, 0] rfl)
def s_X4_skipAll1_4 (L : List Nat) (self1 : Int32 → Int32 → gMem → Option (Int32 × gMem)) (x2 : Int32) (x3 : Int32) (m4 : gMem) : Option (Int32 × gMem) := bd (f_J0_length_8abf5 1) fun (x5 : Int32) => if x5 ≤ x3 then (if isB x2 then some (x2, m4) else none) else if x2 = 0 then (if isB x2 then some (x2, m4) else none) else bd (f_J0_charAt_5068e 1 x3) fun (x6 : Int32) => bd2 (f_X4_skip L m4 x6) fun (x8 : Int32) (m7 : gMem) => lt1 (x3 + (1 : Int32)) fun (x9 : Int32) => (self1 x8 x9 m7)
def f_X4_skipAll1 (L : List Nat) (mem : gMem) : Option (Int32 × gMem) := lq3 (s_X4_skipAll1_4 L) 1000 (1 : Int32) (0 : Int32) mem
set_option maxRecDepth 100000 in
set_option maxHeartbeats 4000000 in
theorem c_X4_skipAll1 {l : Launch} {E : State → Prop} {D : va_G} {cy : Nat → ClassId} {ad : Nat → Nat} {L : List Nat} {adK adV : Nat → Nat} {mem : gMem} {rv : Int32} {memz : gMem} (hk : gOk ad L) (hL : ∀ o ∈ LX0, o ∈ L) (hE : gEok ad L E) (hSs : ∀ s : State, E s → gS (gA ad L) adK adV s) (h : f_X4_skipAll1 L mem = some (rv, memz)) : gMet l yX4_skipAll cX4_skipAll 4 (some .boolean) 4 85 E D cy shX ad L [.ref (ad 30), .ref (adK 1)] mem memz (some (.int rv)) := by
  refine g_go (own := RX4) (by decide +kernel) rfl hE (Nat.le_of_ble_eq_true rfl) ?_
  intro p e s m args below meth c R Q hargs hR hQ hEs hC hr hX H locs ls hH hl
  have hF := gF_of hk
  have hl : lv_has ls 4 [(0, .ref (ad 30)), (1, .ref (adK 1))] := hl
  refine lv_iconst (v := 1) hC.x hC.b dX4_skipAll_0 rfl ?_
  refine lv_istore_n (lv' := [(2, .int (1 : Int32)), (0, .ref (ad 30)), (1, .ref (adK 1))]) hC.x hC.b dX4_skipAll_1 rfl hl (by decide) rfl (fun ls hl => ?_)
  refine lv_iconst (v := 0) hC.x hC.b dX4_skipAll_2 rfl ?_
  refine lv_istore_n (lv' := [(3, .int (0 : Int32)), (2, .int (1 : Int32)), (0, .ref (ad 30)), (1, .ref (adK 1))]) hC.x hC.b dX4_skipAll_3 rfl hl (by decide) rfl (fun ls hl => ?_)
  have hl1 : ∀ (n : Nat) (x2 : Int32) (x3 : Int32) (m4 : gMem) (H : Heap) (locs : List Loc) (ls : Array Slot), lq3 (s_X4_skipAll1_4 L) n x2 x3 m4 = some (rv, memz) → gH D cy shX ad L (gA ad L) s.heap m4 H locs → lv_has ls 4 [(0, .ref (ad 30)), (1, .ref (adK 1)), (2, .int x2), (3, .int x3)] → W p l e R s m args below meth c H locs 0 0 Q (F0 m 4 ls []) := by
    intro n
    induction n with
    | zero => intro x2 x3 m4 H locs ls h _ _; exact lq3_0 h
    | succ n ih1 =>
      intro x2 x3 m4 H locs ls h hH hl
      obtain ⟨self1, es1, h⟩ := lq3_s h
      refine lv_iload_n hC.x hC.b dX4_skipAll_4 rfl (lv_at hl 3 rfl) ?_
      refine lv_aload_n hC.x hC.b dX4_skipAll_5 rfl (lv_at hl 1 rfl) ?_
      obtain ⟨x5, hf5, h⟩ := bd_e h
      refine c_VR1 (As := []) (rest := [.int x3]) (i := 1) hC hX hE.2.1 hF (hSs _ hEs) (by decide) hH (c_J0_length_8abf5 (l := l) hk hL hE hSs (by decide) hf5) kw477 kw478 kw479 kw480 kw481 a_J0_length_8abf5.1 a_J0_length_8abf5.2 rfl hl.1 (rmk hR (by decide) (by decide)) (Nat.le_of_ble_eq_true rfl) dX4_skipAll_6 (fun H locs hH => ?_)
      refine b_ic_ge (tgt := 32) hC dX4_skipAll_9 (by decide) h (fun h => ?_) (fun h => ?_)
      · refine lv_iload_n hC.x hC.b dX4_skipAll_32 rfl (lv_at hl 2 rfl) ?_
        rw [hQ]
        exact e_z hC hr hH h dX4_skipAll_33
      · refine lv_iload_n hC.x hC.b dX4_skipAll_12 rfl (lv_at hl 2 rfl) ?_
        refine b_if_eq (tgt := 32) hC dX4_skipAll_13 (by decide) h (fun h => ?_) (fun h => ?_)
        · refine lv_iload_n hC.x hC.b dX4_skipAll_32 rfl (lv_at hl 2 rfl) ?_
          rw [hQ]
          exact e_z hC hr hH h dX4_skipAll_33
        · refine lv_aload_n hC.x hC.b dX4_skipAll_16 rfl (lv_at hl 0 rfl) ?_
          refine lv_aload_n hC.x hC.b dX4_skipAll_17 rfl (lv_at hl 1 rfl) ?_
          refine lv_iload_n hC.x hC.b dX4_skipAll_18 rfl (lv_at hl 3 rfl) ?_
          obtain ⟨x6, hf6, h⟩ := bd_e h
          refine c_VR1 (As := [.int x3]) (rest := [.ref (ad 30)]) (i := 1) hC hX hE.2.1 hF (hSs _ hEs) (by decide) hH (c_J0_charAt_5068e (l := l) hk hL hE hSs (by decide) hf6) kw489 kw490 kw491 kw480 kw492 a_J0_charAt_5068e.1 a_J0_charAt_5068e.2 rfl hl.1 (rmk hR (by decide) (by decide)) (Nat.le_of_ble_eq_true rfl) dX4_skipAll_19 (fun H locs hH => ?_)
          obtain ⟨x8, m7, hf8, h⟩ := bd2_e h
          refine c_V1 (As := [.int x6]) (rest := []) (o := 30) (q := (RX4, TX4, 4)) hC hX hE.2.1 hF hH (c_X4_skip (l := l) hk hL hE hf8) kw526 kw527 kw528 kw24 kw529 a_X4_skip.1 a_X4_skip.2 (hL _ mX30) sX30 rfl rfl hl.1 (rmk hR (by decide) (by decide)) (Nat.le_of_ble_eq_true rfl) dX4_skipAll_22 (fun H locs hH => ?_)
          refine lv_istore_n (lv' := [(2, .int x8), (0, .ref (ad 30)), (1, .ref (adK 1)), (3, .int x3)]) hC.x hC.b dX4_skipAll_25 rfl hl (by decide) rfl (fun ls hl => ?_)
          refine i_inc (lv' := fun x9 => [(3, .int x9), (2, .int x8), (0, .ref (ad 30)), (1, .ref (adK 1))]) hC dX4_skipAll_26 hl (k := 3) rfl (by decide) (fun _ => rfl) (z := 1) rfl h (fun x9 ls h hl => ?_)
          refine lv_goto (tgt := 4) hC.x hC.b dX4_skipAll_29 (by decide) ?_
          exact ih1 x8 x9 m7 H locs ls (ap3 es1 h) hH (lv_sub hl [2, 3, 1, 0] rfl)
  exact hl1 _ (1 : Int32) (0 : Int32) mem H locs ls h hH (lv_sub hl [2, 3, 1, 0] rfl)
def s_X4_skipAll2_4 (L : List Nat) (self1 : Int32 → Int32 → gMem → Option (Int32 × gMem)) (x2 : Int32) (x3 : Int32) (m4 : gMem) : Option (Int32 × gMem) := bd (f_J0_length_8abf5 2) fun (x5 : Int32) => if x5 ≤ x3 then (if isB x2 then some (x2, m4) else none) else if x2 = 0 then (if isB x2 then some (x2, m4) else none) else bd (f_J0_charAt_5068e 2 x3) fun (x6 : Int32) => bd2 (f_X4_skip L m4 x6) fun (x8 : Int32) (m7 : gMem) => lt1 (x3 + (1 : Int32)) fun (x9 : Int32) => (self1 x8 x9 m7)
def f_X4_skipAll2 (L : List Nat) (mem : gMem) : Option (Int32 × gMem) := lq3 (s_X4_skipAll2_4 L) 1000 (1 : Int32) (0 : Int32) mem
set_option maxRecDepth 100000 in
set_option maxHeartbeats 4000000 in
theorem c_X4_skipAll2 {l : Launch} {E : State → Prop} {D : va_G} {cy : Nat → ClassId} {ad : Nat → Nat} {L : List Nat} {adK adV : Nat → Nat} {mem : gMem} {rv : Int32} {memz : gMem} (hk : gOk ad L) (hL : ∀ o ∈ LX0, o ∈ L) (hE : gEok ad L E) (hSs : ∀ s : State, E s → gS (gA ad L) adK adV s) (h : f_X4_skipAll2 L mem = some (rv, memz)) : gMet l yX4_skipAll cX4_skipAll 4 (some .boolean) 4 85 E D cy shX ad L [.ref (ad 30), .ref (adK 2)] mem memz (some (.int rv)) := by
  refine g_go (own := RX4) (by decide +kernel) rfl hE (Nat.le_of_ble_eq_true rfl) ?_
  intro p e s m args below meth c R Q hargs hR hQ hEs hC hr hX H locs ls hH hl
  have hF := gF_of hk
  have hl : lv_has ls 4 [(0, .ref (ad 30)), (1, .ref (adK 2))] := hl
  refine lv_iconst (v := 1) hC.x hC.b dX4_skipAll_0 rfl ?_
  refine lv_istore_n (lv' := [(2, .int (1 : Int32)), (0, .ref (ad 30)), (1, .ref (adK 2))]) hC.x hC.b dX4_skipAll_1 rfl hl (by decide) rfl (fun ls hl => ?_)
  refine lv_iconst (v := 0) hC.x hC.b dX4_skipAll_2 rfl ?_
  refine lv_istore_n (lv' := [(3, .int (0 : Int32)), (2, .int (1 : Int32)), (0, .ref (ad 30)), (1, .ref (adK 2))]) hC.x hC.b dX4_skipAll_3 rfl hl (by decide) rfl (fun ls hl => ?_)
  have hl1 : ∀ (n : Nat) (x2 : Int32) (x3 : Int32) (m4 : gMem) (H : Heap) (locs : List Loc) (ls : Array Slot), lq3 (s_X4_skipAll2_4 L) n x2 x3 m4 = some (rv, memz) → gH D cy shX ad L (gA ad L) s.heap m4 H locs → lv_has ls 4 [(0, .ref (ad 30)), (1, .ref (adK 2)), (2, .int x2), (3, .int x3)] → W p l e R s m args below meth c H locs 0 0 Q (F0 m 4 ls []) := by
    intro n
    induction n with
    | zero => intro x2 x3 m4 H locs ls h _ _; exact lq3_0 h
    | succ n ih1 =>
      intro x2 x3 m4 H locs ls h hH hl
      obtain ⟨self1, es1, h⟩ := lq3_s h
      refine lv_iload_n hC.x hC.b dX4_skipAll_4 rfl (lv_at hl 3 rfl) ?_
      refine lv_aload_n hC.x hC.b dX4_skipAll_5 rfl (lv_at hl 1 rfl) ?_
      obtain ⟨x5, hf5, h⟩ := bd_e h
      refine c_VR1 (As := []) (rest := [.int x3]) (i := 2) hC hX hE.2.1 hF (hSs _ hEs) (by decide) hH (c_J0_length_8abf5 (l := l) hk hL hE hSs (by decide) hf5) kw477 kw478 kw479 kw480 kw481 a_J0_length_8abf5.1 a_J0_length_8abf5.2 rfl hl.1 (rmk hR (by decide) (by decide)) (Nat.le_of_ble_eq_true rfl) dX4_skipAll_6 (fun H locs hH => ?_)
      refine b_ic_ge (tgt := 32) hC dX4_skipAll_9 (by decide) h (fun h => ?_) (fun h => ?_)
      · refine lv_iload_n hC.x hC.b dX4_skipAll_32 rfl (lv_at hl 2 rfl) ?_
        rw [hQ]
        exact e_z hC hr hH h dX4_skipAll_33
      · refine lv_iload_n hC.x hC.b dX4_skipAll_12 rfl (lv_at hl 2 rfl) ?_
        refine b_if_eq (tgt := 32) hC dX4_skipAll_13 (by decide) h (fun h => ?_) (fun h => ?_)
        · refine lv_iload_n hC.x hC.b dX4_skipAll_32 rfl (lv_at hl 2 rfl) ?_
          rw [hQ]
          exact e_z hC hr hH h dX4_skipAll_33
        · refine lv_aload_n hC.x hC.b dX4_skipAll_16 rfl (lv_at hl 0 rfl) ?_
          refine lv_aload_n hC.x hC.b dX4_skipAll_17 rfl (lv_at hl 1 rfl) ?_
          refine lv_iload_n hC.x hC.b dX4_skipAll_18 rfl (lv_at hl 3 rfl) ?_
          obtain ⟨x6, hf6, h⟩ := bd_e h
          refine c_VR1 (As := [.int x3]) (rest := [.ref (ad 30)]) (i := 2) hC hX hE.2.1 hF (hSs _ hEs) (by decide) hH (c_J0_charAt_5068e (l := l) hk hL hE hSs (by decide) hf6) kw489 kw490 kw491 kw480 kw492 a_J0_charAt_5068e.1 a_J0_charAt_5068e.2 rfl hl.1 (rmk hR (by decide) (by decide)) (Nat.le_of_ble_eq_true rfl) dX4_skipAll_19 (fun H locs hH => ?_)
          obtain ⟨x8, m7, hf8, h⟩ := bd2_e h
          refine c_V1 (As := [.int x6]) (rest := []) (o := 30) (q := (RX4, TX4, 4)) hC hX hE.2.1 hF hH (c_X4_skip (l := l) hk hL hE hf8) kw526 kw527 kw528 kw24 kw529 a_X4_skip.1 a_X4_skip.2 (hL _ mX30) sX30 rfl rfl hl.1 (rmk hR (by decide) (by decide)) (Nat.le_of_ble_eq_true rfl) dX4_skipAll_22 (fun H locs hH => ?_)
          refine lv_istore_n (lv' := [(2, .int x8), (0, .ref (ad 30)), (1, .ref (adK 2)), (3, .int x3)]) hC.x hC.b dX4_skipAll_25 rfl hl (by decide) rfl (fun ls hl => ?_)
          refine i_inc (lv' := fun x9 => [(3, .int x9), (2, .int x8), (0, .ref (ad 30)), (1, .ref (adK 2))]) hC dX4_skipAll_26 hl (k := 3) rfl (by decide) (fun _ => rfl) (z := 1) rfl h (fun x9 ls h hl => ?_)
          refine lv_goto (tgt := 4) hC.x hC.b dX4_skipAll_29 (by decide) ?_
          exact ih1 x8 x9 m7 H locs ls (ap3 es1 h) hH (lv_sub hl [2, 3, 1, 0] rfl)
  exact hl1 _ (1 : Int32) (0 : Int32) mem H locs ls h hH (lv_sub hl [2, 3, 1, 0] rfl)
theorem a_J0_indexOf_0f7a4 : noMH yJ0_indexOf_0f7a4.cls ∧ arity yJ0_indexOf_0f7a4.desc 1 := by decide +kernel
def f_X4_placeOfSign3 (L : List Nat) (mem : gMem) : Option Int32 := bd (f_X4_sign L mem) fun (x1 : Int32) => if 0 ≤ x1 then (bd (f_X4_sign L mem) fun (x2 : Int32) => bd (f_J0_indexOf_0f7a4 3 ((x2.toUInt32 % 65536).toInt32)) fun (x3 : Int32) => some x3) else some (-1 : Int32)
set_option maxRecDepth 100000 in
set_option maxHeartbeats 4000000 in
theorem c_X4_placeOfSign3 {l : Launch} {E : State → Prop} {D : va_G} {cy : Nat → ClassId} {ad : Nat → Nat} {L : List Nat} {adK adV : Nat → Nat} {mem : gMem} {rv : Int32} (hk : gOk ad L) (hL : ∀ o ∈ LX0, o ∈ L) (hE : gEok ad L E) (hSs : ∀ s : State, E s → gS (gA ad L) adK adV s) (h : f_X4_placeOfSign3 L mem = some rv) : gMet l yX4_placeOfSign cX4_placeOfSign 2 (some .int) 4 91 E D cy shX ad L [.ref (ad 30), .ref (adK 3)] mem mem (some (.int rv)) := by
  refine g_go (own := RX4) (by decide +kernel) rfl hE (Nat.le_of_ble_eq_true rfl) ?_
  intro p e s m args below meth c R Q hargs hR hQ hEs hC hr hX H locs ls hH hl
  have hF := gF_of hk
  have hl : lv_has ls 2 [(0, .ref (ad 30)), (1, .ref (adK 3))] := hl
  refine lv_aload_n hC.x hC.b dX4_placeOfSign_0 rfl (lv_at hl 0 rfl) ?_
  obtain ⟨x1, hf1, h⟩ := bd_e h
  refine c_V1 (As := []) (rest := []) (o := 30) (q := (RX4, TX4, 4)) hC hX hE.2.1 hF hH (c_X4_sign (l := l) hk hL hE hf1) kw469 kw470 kw471 kw24 kw472 a_X4_sign.1 a_X4_sign.2 (hL _ mX30) sX30 rfl rfl hl.1 (rmk hR (by decide) (by decide)) (Nat.le_of_ble_eq_true rfl) dX4_placeOfSign_1 (fun H locs hH => ?_)
  refine b_if_ge (tgt := 11) hC dX4_placeOfSign_4 (by decide) h (fun h => ?_) (fun h => ?_)
  · refine lv_aload_n hC.x hC.b dX4_placeOfSign_11 rfl (lv_at hl 1 rfl) ?_
    refine lv_aload_n hC.x hC.b dX4_placeOfSign_12 rfl (lv_at hl 0 rfl) ?_
    obtain ⟨x2, hf2, h⟩ := bd_e h
    refine c_V1 (As := []) (rest := [.ref (adK 3)]) (o := 30) (q := (RX4, TX4, 4)) hC hX hE.2.1 hF hH (c_X4_sign (l := l) hk hL hE hf2) kw469 kw470 kw471 kw24 kw472 a_X4_sign.1 a_X4_sign.2 (hL _ mX30) sX30 rfl rfl hl.1 (rmk hR (by decide) (by decide)) (Nat.le_of_ble_eq_true rfl) dX4_placeOfSign_13 (fun H locs hH => ?_)
    refine lv_i2c hC.x hC.b dX4_placeOfSign_16 rfl ?_
    obtain ⟨x3, hf3, h⟩ := bd_e h
    refine c_VR1 (As := [.int ((x2.toUInt32 % 65536).toInt32)]) (rest := []) (i := 3) hC hX hE.2.1 hF (hSs _ hEs) (by decide) hH (c_J0_indexOf_0f7a4 (l := l) hk hL hE hSs (by decide) hf3) kw565 kw566 kw567 kw480 kw568 a_J0_indexOf_0f7a4.1 a_J0_indexOf_0f7a4.2 rfl hl.1 (rmk hR (by decide) (by decide)) (Nat.le_of_ble_eq_true rfl) dX4_placeOfSign_17 (fun H locs hH => ?_)
    rw [hQ]
    exact e_ir hC hr hH h dX4_placeOfSign_20
  · refine lv_iconst (v := -1) hC.x hC.b dX4_placeOfSign_7 rfl ?_
    refine lv_goto (tgt := 20) hC.x hC.b dX4_placeOfSign_8 (by decide) ?_
    rw [hQ]
    exact e_ir hC hr hH h dX4_placeOfSign_20
def f_X4_placeOfSign4 (L : List Nat) (mem : gMem) : Option Int32 := bd (f_X4_sign L mem) fun (x1 : Int32) => if 0 ≤ x1 then (bd (f_X4_sign L mem) fun (x2 : Int32) => bd (f_J0_indexOf_0f7a4 4 ((x2.toUInt32 % 65536).toInt32)) fun (x3 : Int32) => some x3) else some (-1 : Int32)
set_option maxRecDepth 100000 in
set_option maxHeartbeats 4000000 in
theorem c_X4_placeOfSign4 {l : Launch} {E : State → Prop} {D : va_G} {cy : Nat → ClassId} {ad : Nat → Nat} {L : List Nat} {adK adV : Nat → Nat} {mem : gMem} {rv : Int32} (hk : gOk ad L) (hL : ∀ o ∈ LX0, o ∈ L) (hE : gEok ad L E) (hSs : ∀ s : State, E s → gS (gA ad L) adK adV s) (h : f_X4_placeOfSign4 L mem = some rv) : gMet l yX4_placeOfSign cX4_placeOfSign 2 (some .int) 4 91 E D cy shX ad L [.ref (ad 30), .ref (adK 4)] mem mem (some (.int rv)) := by
  refine g_go (own := RX4) (by decide +kernel) rfl hE (Nat.le_of_ble_eq_true rfl) ?_
  intro p e s m args below meth c R Q hargs hR hQ hEs hC hr hX H locs ls hH hl
  have hF := gF_of hk
  have hl : lv_has ls 2 [(0, .ref (ad 30)), (1, .ref (adK 4))] := hl
  refine lv_aload_n hC.x hC.b dX4_placeOfSign_0 rfl (lv_at hl 0 rfl) ?_
  obtain ⟨x1, hf1, h⟩ := bd_e h
  refine c_V1 (As := []) (rest := []) (o := 30) (q := (RX4, TX4, 4)) hC hX hE.2.1 hF hH (c_X4_sign (l := l) hk hL hE hf1) kw469 kw470 kw471 kw24 kw472 a_X4_sign.1 a_X4_sign.2 (hL _ mX30) sX30 rfl rfl hl.1 (rmk hR (by decide) (by decide)) (Nat.le_of_ble_eq_true rfl) dX4_placeOfSign_1 (fun H locs hH => ?_)
  refine b_if_ge (tgt := 11) hC dX4_placeOfSign_4 (by decide) h (fun h => ?_) (fun h => ?_)
  · refine lv_aload_n hC.x hC.b dX4_placeOfSign_11 rfl (lv_at hl 1 rfl) ?_
    refine lv_aload_n hC.x hC.b dX4_placeOfSign_12 rfl (lv_at hl 0 rfl) ?_
    obtain ⟨x2, hf2, h⟩ := bd_e h
    refine c_V1 (As := []) (rest := [.ref (adK 4)]) (o := 30) (q := (RX4, TX4, 4)) hC hX hE.2.1 hF hH (c_X4_sign (l := l) hk hL hE hf2) kw469 kw470 kw471 kw24 kw472 a_X4_sign.1 a_X4_sign.2 (hL _ mX30) sX30 rfl rfl hl.1 (rmk hR (by decide) (by decide)) (Nat.le_of_ble_eq_true rfl) dX4_placeOfSign_13 (fun H locs hH => ?_)
    refine lv_i2c hC.x hC.b dX4_placeOfSign_16 rfl ?_
    obtain ⟨x3, hf3, h⟩ := bd_e h
    refine c_VR1 (As := [.int ((x2.toUInt32 % 65536).toInt32)]) (rest := []) (i := 4) hC hX hE.2.1 hF (hSs _ hEs) (by decide) hH (c_J0_indexOf_0f7a4 (l := l) hk hL hE hSs (by decide) hf3) kw565 kw566 kw567 kw480 kw568 a_J0_indexOf_0f7a4.1 a_J0_indexOf_0f7a4.2 rfl hl.1 (rmk hR (by decide) (by decide)) (Nat.le_of_ble_eq_true rfl) dX4_placeOfSign_17 (fun H locs hH => ?_)
    rw [hQ]
    exact e_ir hC hr hH h dX4_placeOfSign_20
  · refine lv_iconst (v := -1) hC.x hC.b dX4_placeOfSign_7 rfl ?_
    refine lv_goto (tgt := 20) hC.x hC.b dX4_placeOfSign_8 (by decide) ?_
    rw [hQ]
    exact e_ir hC hr hH h dX4_placeOfSign_20
theorem u_X8_42 {p : Program} {l : Launch} {e : Env} {R : Room} {s : State} {m : MethodId} {args : Array Value} {below : List Frame} {meth : Method} {c : Code} {H : Heap} {locs : List Loc} {cells slots : Nat} {Q : State → Prop} {cc : ByteArray} {nL : Nat} {pc : Nat} {ls : Array Slot} {rest As : List Value} {D : va_G} {cy : Nat → ClassId} {ad : Nat → Nat} {L : List Nat} {A : Nat → Prop} {mem mem' : gMem} {E : State → Prop} {fr lo w : Nat} {v : Value} (hC : gC p s m args meth c cc nL RX8 D cy) (hX : gX A s E) (hB : eBl E) (hF : gF ad L A) (hH : gH D cy shX ad L A s.heap mem H locs) (hM : gMet l yX9_actGoes cX9_actGoes 2 (some .int) fr lo E D cy shX ad L (.ref (ad w) :: As) mem mem' (some v)) (hw : wok L w) (hk : wkd w = 6) (hn : As.length = 1) (hls : ls.size = nL) (hR : fr + 1 ≤ R.frames ∧ 8 + (2 + 11) + lo ≤ R.locals ∧ cells ≤ R.cells ∧ slots ≤ R.slots) (hW : (rest.map fun v => v.category).sum ≤ 8) (hdg : decode cc pc = .ok (.invokespecial 42, 3))
    (kk : ∀ (H1 : Heap) (locs1 : List Loc), gH D cy shX ad L A s.heap mem' H1 locs1 → W p l e R s m args below meth c H1 locs1 cells slots Q (F0 m (pc + 3) ls (v :: rest))) : W p l e R s m args below meth c H locs cells slots Q (F0 m pc ls (As.reverse ++ .ref (ad w) :: rest)) := by
  rcases hk with hk
  · exact c_SX (ov := (some v)) (x := ⟨"OnTiptoe$Slow", "actGoes", "(I)I"⟩) (owner := "OnTiptoe$Walker") (q := (RX8, TX8, 8)) hC hX hB hF hH hM rfl kw1364 kw1226 kw364 kw1224 kw221 kw1175 kw1174 (by decide +kernel) a_X9_actGoes.2 hw.2.2.2.1 (sWk hw hk) rfl hn hls hR hW hdg kk
def f_X8_actGoes (L : List Nat) (mem : gMem) (w0 : Nat) (p0 : Int32) : Option (Int32 × gMem) := bd (f_X9_begin L mem w0 (70 : Int32)) fun (m1 : gMem) => bd2 (f_X9_actGoes L m1 w0 p0) fun (x3 : Int32) (m2 : gMem) => bd2 (f_X9_actTreads L m2 w0 (2 : Int32)) fun (x5 : Int32) (m4 : gMem) => some ((x3 + x5), m4)
set_option maxRecDepth 100000 in
set_option maxHeartbeats 4000000 in
theorem c_X8_actGoes {l : Launch} {E : State → Prop} {D : va_G} {cy : Nat → ClassId} {ad : Nat → Nat} {L : List Nat} {mem : gMem} {w0 : Nat} {p0 : Int32} {rv : Int32} {memz : gMem} (hk : gOk ad L) (hL : ∀ o ∈ LX0, o ∈ L) (hE : gEok ad L E) (hw0 : wok L w0) (hkd : wkd w0 = 6) (h : f_X8_actGoes L mem w0 p0 = some (rv, memz)) : gMet l yX8_actGoes cX8_actGoes 2 (some .int) 4 84 E D cy shX ad L [.ref (ad w0), .int p0] mem memz (some (.int rv)) := by
  refine g_go (own := RX8) (by decide +kernel) rfl hE (Nat.le_of_ble_eq_true rfl) ?_
  intro p e s m args below meth c R Q hargs hR hQ hEs hC hr hX H locs ls hH hl
  have hF := gF_of hk
  have hl : lv_has ls 2 [(0, .ref (ad w0)), (1, .int p0)] := hl
  refine lv_aload_n hC.x hC.b dX8_actGoes_0 rfl (lv_at hl 0 rfl) ?_
  refine lv_bipush (v := 70) hC.x hC.b dX8_actGoes_1 rfl ?_
  obtain ⟨m1, hf1, h⟩ := bd_e h
  refine v_X8_38_begin hC hX hk hL hE hF hH hw0 hkd hf1 hl.1 hR (by decide) (by decide) (Nat.le_of_ble_eq_true rfl) dX8_actGoes_3 (fun H locs hH => ?_)
  refine lv_aload_n hC.x hC.b dX8_actGoes_6 rfl (lv_at hl 0 rfl) ?_
  refine lv_iload_n hC.x hC.b dX8_actGoes_7 rfl (lv_at hl 1 rfl) ?_
  obtain ⟨x3, m2, hf3, h⟩ := bd2_e h
  refine u_X8_42 (As := [.int p0]) (rest := []) hC hX hE.2.1 hF hH (c_X9_actGoes (l := l) hk hL hE hw0 hf3) hw0 hkd rfl hl.1 (rmk hR (by decide) (by decide)) (Nat.le_of_ble_eq_true rfl) dX8_actGoes_8 (fun H locs hH => ?_)
  refine lv_aload_n hC.x hC.b dX8_actGoes_11 rfl (lv_at hl 0 rfl) ?_
  refine lv_iconst (v := 2) hC.x hC.b dX8_actGoes_12 rfl ?_
  obtain ⟨x5, m4, hf5, h⟩ := bd2_e h
  refine u_X8_46 (As := [.int (2 : Int32)]) (rest := [.int x3]) hC hX hE.2.1 hF hH (c_X9_actTreads (l := l) hk hL hE hw0 hf5) hw0 hkd rfl hl.1 (rmk hR (by decide) (by decide)) (Nat.le_of_ble_eq_true rfl) dX8_actGoes_13 (fun H locs hH => ?_)
  refine lv_iadd hC.x hC.b dX8_actGoes_16 ?_
  rw [hQ]
  exact e_i hC hr hH h dX8_actGoes_17
theorem v_X10_53_kind {p : Program} {l : Launch} {e : Env} {R : Room} {s : State} {m : MethodId} {args : Array Value} {below : List Frame} {meth : Method} {c : Code} {H : Heap} {locs : List Loc} {Q : State → Prop} {cc : ByteArray} {nL : Nat} {pc : Nat} {ls : Array Slot} {rest : List Value} {D : va_G} {cy : Nat → ClassId} {ad : Nat → Nat} {L : List Nat} {mem : gMem} {E : State → Prop} {fr0 lo0 w : Nat} {rv : Int32} (hC : gC p s m args meth c cc nL RX10 D cy) (hX : gX (gA ad L) s E) (hk : gOk ad L) (hL : ∀ o ∈ LX0, o ∈ L) (hE : gEok ad L E) (hF : gF ad L (gA ad L)) (hH : gH D cy shX ad L (gA ad L) s.heap mem H locs) (hw : wok L w) (hf : d_kind L mem w  = some rv) (hls : ls.size = nL) (hR : R = gRm fr0 lo0) (h1 : 1 ≤ fr0) (h2 : 20 ≤ lo0) (hW : (rest.map fun v => v.category).sum ≤ 8) (hdg : decode cc pc = .ok (.invokevirtual 53, 3))
    (kk : ∀ (H1 : Heap) (locs1 : List Loc), gH D cy shX ad L (gA ad L) s.heap mem H1 locs1 → W p l e R s m args below meth c H1 locs1 0 0 Q (F0 m (pc + 3) ls (.int rv :: rest))) : W p l e R s m args below meth c H locs 0 0 Q (F0 m pc ls (.ref (ad w) :: rest)) := by
  have hk7 := hw.2.2.1
  unfold d_kind at hf
  by_cases hc : wkd w = 0
  · have hf := ifp hc hf
    exact c_U1 (As := []) (rest := rest) (o := w) (x := ⟨"OnTiptoe$Walker", "kind", "()I"⟩) (owner := "OnTiptoe$Walker") (b0 := cX9_kind) (m0 := 1) (r0 := (some .int)) (q := (RX9, TX9, 6)) hC hX hE.2.1 hF hH (c_X9_kind (l := l) (mem := mem) hk hL hE hw hf) kw813 kw272 kw295 kw221 kw277 kw273 kw273 kw277 (by decide +kernel) a_X9_kind.2 hw.2.2.2.1 (sWk hw hc) rfl rfl hls (rmk hR (by omega) (by omega)) hW hdg kk
  have hf := ifn hc hf
  have hz0 := hc
  clear hc
  by_cases hc : wkd w = 1
  · have hf := ifp hc hf
    exact c_U1 (As := []) (rest := rest) (o := w) (x := ⟨"OnTiptoe$Walker", "kind", "()I"⟩) (owner := "OnTiptoe$Walker") (b0 := cX9_kind) (m0 := 1) (r0 := (some .int)) (q := (RX1, TX1, 6)) hC hX hE.2.1 hF hH (c_X1_kind (l := l) (mem := mem) hk hL hE hw (by omega) hf) kw813 kw272 kw278 kw204 kw280 kw279 kw273 kw277 (by decide +kernel) a_X1_kind.2 hw.2.2.2.1 (sWk hw hc) rfl rfl hls (rmk hR (by omega) (by omega)) hW hdg kk
  have hf := ifn hc hf
  have hz1 := hc
  clear hc
  by_cases hc : wkd w = 2
  · have hf := ifp hc hf
    exact c_U1 (As := []) (rest := rest) (o := w) (x := ⟨"OnTiptoe$Walker", "kind", "()I"⟩) (owner := "OnTiptoe$Walker") (b0 := cX9_kind) (m0 := 1) (r0 := (some .int)) (q := (RX6, TX6, 6)) hC hX hE.2.1 hF hH (c_X6_kind (l := l) (mem := mem) hk hL hE hw (by omega) hf) kw813 kw272 kw284 kw207 kw286 kw285 kw273 kw277 (by decide +kernel) a_X6_kind.2 hw.2.2.2.1 (sWk hw hc) rfl rfl hls (rmk hR (by omega) (by omega)) hW hdg kk
  have hf := ifn hc hf
  have hz2 := hc
  clear hc
  by_cases hc : wkd w = 3
  · have hf := ifp hc hf
    exact c_U1 (As := []) (rest := rest) (o := w) (x := ⟨"OnTiptoe$Walker", "kind", "()I"⟩) (owner := "OnTiptoe$Walker") (b0 := cX9_kind) (m0 := 1) (r0 := (some .int)) (q := (RX5, TX5, 6)) hC hX hE.2.1 hF hH (c_X5_kind (l := l) (mem := mem) hk hL hE hw (by omega) hf) kw813 kw272 kw281 kw210 kw283 kw282 kw273 kw277 (by decide +kernel) a_X5_kind.2 hw.2.2.2.1 (sWk hw hc) rfl rfl hls (rmk hR (by omega) (by omega)) hW hdg kk
  have hf := ifn hc hf
  have hz3 := hc
  clear hc
  by_cases hc : wkd w = 4
  · have hf := ifp hc hf
    exact c_U1 (As := []) (rest := rest) (o := w) (x := ⟨"OnTiptoe$Walker", "kind", "()I"⟩) (owner := "OnTiptoe$Walker") (b0 := cX9_kind) (m0 := 1) (r0 := (some .int)) (q := (RX7, TX7, 6)) hC hX hE.2.1 hF hH (c_X7_kind (l := l) (mem := mem) hk hL hE hw (by omega) hf) kw813 kw272 kw287 kw213 kw289 kw288 kw273 kw277 (by decide +kernel) a_X7_kind.2 hw.2.2.2.1 (sWk hw hc) rfl rfl hls (rmk hR (by omega) (by omega)) hW hdg kk
  have hf := ifn hc hf
  have hz4 := hc
  clear hc
  by_cases hc : wkd w = 5
  · have hf := ifp hc hf
    exact c_U1 (As := []) (rest := rest) (o := w) (x := ⟨"OnTiptoe$Walker", "kind", "()I"⟩) (owner := "OnTiptoe$Walker") (b0 := cX9_kind) (m0 := 1) (r0 := (some .int)) (q := (RX0, TX0, 6)) hC hX hE.2.1 hF hH (c_X0_kind (l := l) (mem := mem) hk hL hE hw (by omega) hf) kw813 kw272 kw274 kw216 kw276 kw275 kw273 kw277 (by decide +kernel) a_X0_kind.2 hw.2.2.2.1 (sWk hw hc) rfl rfl hls (rmk hR (by omega) (by omega)) hW hdg kk
  have hf := ifn hc hf
  have hz5 := hc
  clear hc
  have hc : wkd w = 6 := by omega
  exact c_U1 (As := []) (rest := rest) (o := w) (x := ⟨"OnTiptoe$Walker", "kind", "()I"⟩) (owner := "OnTiptoe$Walker") (b0 := cX9_kind) (m0 := 1) (r0 := (some .int)) (q := (RX8, TX8, 8)) hC hX hE.2.1 hF hH (c_X8_kind (l := l) (mem := mem) hk hL hE hw (by omega) hf) kw813 kw272 kw290 kw219 kw292 kw291 kw273 kw277 (by decide +kernel) a_X8_kind.2 hw.2.2.2.1 (sWk hw hc) rfl rfl hls (rmk hR (by omega) (by omega)) hW hdg kk
theorem v_X10_60_noise {p : Program} {l : Launch} {e : Env} {R : Room} {s : State} {m : MethodId} {args : Array Value} {below : List Frame} {meth : Method} {c : Code} {H : Heap} {locs : List Loc} {Q : State → Prop} {cc : ByteArray} {nL : Nat} {pc : Nat} {ls : Array Slot} {rest : List Value} {D : va_G} {cy : Nat → ClassId} {ad : Nat → Nat} {L : List Nat} {mem : gMem} {E : State → Prop} {fr0 lo0 w : Nat} {x0 x1 : Int32} {rv : Int32} (hC : gC p s m args meth c cc nL RX10 D cy) (hX : gX (gA ad L) s E) (hk : gOk ad L) (hL : ∀ o ∈ LX0, o ∈ L) (hE : gEok ad L E) (hF : gF ad L (gA ad L)) (hH : gH D cy shX ad L (gA ad L) s.heap mem H locs) (hw : wok L w) (hf : d_noise L mem w x0 x1 = some rv) (hls : ls.size = nL) (hR : R = gRm fr0 lo0) (h1 : 3 ≤ fr0) (h2 : 65 ≤ lo0) (hW : (rest.map fun v => v.category).sum ≤ 8) (hdg : decode cc pc = .ok (.invokevirtual 60, 3))
    (kk : ∀ (H1 : Heap) (locs1 : List Loc), gH D cy shX ad L (gA ad L) s.heap mem H1 locs1 → W p l e R s m args below meth c H1 locs1 0 0 Q (F0 m (pc + 3) ls (.int rv :: rest))) : W p l e R s m args below meth c H locs 0 0 Q (F0 m pc ls (.int x1 :: .int x0 :: .ref (ad w) :: rest)) := by
  have hk7 := hw.2.2.1
  unfold d_noise at hf
  by_cases hc : wkd w = 0
  · have hf := ifp hc hf
    exact c_U1 (As := [.int x0, .int x1]) (rest := rest) (o := w) (x := ⟨"OnTiptoe$Walker", "noise", "(II)I"⟩) (owner := "OnTiptoe$Walker") (b0 := cX9_noise) (m0 := 3) (r0 := (some .int)) (q := (RX9, TX9, 6)) hC hX hE.2.1 hF hH (c_X9_noise (l := l) (mem := mem) hk hL hE hw hf) kw816 kw330 kw371 kw221 kw342 kw331 kw331 kw342 (by decide +kernel) a_X9_noise.2 hw.2.2.2.1 (sWk hw hc) rfl rfl hls (rmk hR (by omega) (by omega)) hW hdg kk
  have hf := ifn hc hf
  have hz0 := hc
  clear hc
  by_cases hc : wkd w = 1
  · have hf := ifp hc hf
    exact c_U1 (As := [.int x0, .int x1]) (rest := rest) (o := w) (x := ⟨"OnTiptoe$Walker", "noise", "(II)I"⟩) (owner := "OnTiptoe$Walker") (b0 := cX9_noise) (m0 := 3) (r0 := (some .int)) (q := (RX1, TX1, 6)) hC hX hE.2.1 hF hH (c_X1_noise (l := l) (mem := mem) hk hL hE hw (by omega) hf) kw816 kw330 kw343 kw204 kw345 kw344 kw331 kw342 (by decide +kernel) a_X1_noise.2 hw.2.2.2.1 (sWk hw hc) rfl rfl hls (rmk hR (by omega) (by omega)) hW hdg kk
  have hf := ifn hc hf
  have hz1 := hc
  clear hc
  by_cases hc : wkd w = 2
  · have hf := ifp hc hf
    exact c_U1 (As := [.int x0, .int x1]) (rest := rest) (o := w) (x := ⟨"OnTiptoe$Walker", "noise", "(II)I"⟩) (owner := "OnTiptoe$Walker") (b0 := cX9_noise) (m0 := 3) (r0 := (some .int)) (q := (RX6, TX6, 6)) hC hX hE.2.1 hF hH (c_X6_noise (l := l) (mem := mem) hk hL hE hw (by omega) hf) kw816 kw330 kw352 kw207 kw341 kw340 kw331 kw342 (by decide +kernel) a_X6_noise.2 hw.2.2.2.1 (sWk hw hc) rfl rfl hls (rmk hR (by omega) (by omega)) hW hdg kk
  have hf := ifn hc hf
  have hz2 := hc
  clear hc
  by_cases hc : wkd w = 3
  · have hf := ifp hc hf
    exact c_U1 (As := [.int x0, .int x1]) (rest := rest) (o := w) (x := ⟨"OnTiptoe$Walker", "noise", "(II)I"⟩) (owner := "OnTiptoe$Walker") (b0 := cX9_noise) (m0 := 3) (r0 := (some .int)) (q := (RX5, TX5, 6)) hC hX hE.2.1 hF hH (c_X5_noise (l := l) (mem := mem) hk hL hE hw (by omega) hf) kw816 kw330 kw348 kw210 kw350 kw349 kw331 kw342 (by decide +kernel) a_X5_noise.2 hw.2.2.2.1 (sWk hw hc) rfl rfl hls (rmk hR (by omega) (by omega)) hW hdg kk
  have hf := ifn hc hf
  have hz3 := hc
  clear hc
  by_cases hc : wkd w = 4
  · have hf := ifp hc hf
    exact c_U1 (As := [.int x0, .int x1]) (rest := rest) (o := w) (x := ⟨"OnTiptoe$Walker", "noise", "(II)I"⟩) (owner := "OnTiptoe$Walker") (b0 := cX9_noise) (m0 := 3) (r0 := (some .int)) (q := (RX7, TX7, 6)) hC hX hE.2.1 hF hH (c_X7_noise (l := l) (mem := mem) hk hL hE hw (by omega) hf) kw816 kw330 kw353 kw213 kw355 kw354 kw331 kw342 (by decide +kernel) a_X7_noise.2 hw.2.2.2.1 (sWk hw hc) rfl rfl hls (rmk hR (by omega) (by omega)) hW hdg kk
  have hf := ifn hc hf
  have hz4 := hc
  clear hc
  by_cases hc : wkd w = 5
  · have hf := ifp hc hf
    exact c_U1 (As := [.int x0, .int x1]) (rest := rest) (o := w) (x := ⟨"OnTiptoe$Walker", "noise", "(II)I"⟩) (owner := "OnTiptoe$Walker") (b0 := cX9_noise) (m0 := 3) (r0 := (some .int)) (q := (RX0, TX0, 6)) hC hX hE.2.1 hF hH (c_X0_noise (l := l) (mem := mem) hk hL hE hw (by omega) hf) kw816 kw330 kw332 kw216 kw334 kw333 kw331 kw342 (by decide +kernel) a_X0_noise.2 hw.2.2.2.1 (sWk hw hc) rfl rfl hls (rmk hR (by omega) (by omega)) hW hdg kk
  have hf := ifn hc hf
  have hz5 := hc
  clear hc
  have hc : wkd w = 6 := by omega
  exact c_U1 (As := [.int x0, .int x1]) (rest := rest) (o := w) (x := ⟨"OnTiptoe$Walker", "noise", "(II)I"⟩) (owner := "OnTiptoe$Walker") (b0 := cX9_noise) (m0 := 3) (r0 := (some .int)) (q := (RX8, TX8, 8)) hC hX hE.2.1 hF hH (c_X8_noise (l := l) (mem := mem) hk hL hE hw (by omega) hf) kw816 kw330 kw359 kw219 kw361 kw360 kw331 kw342 (by decide +kernel) a_X8_noise.2 hw.2.2.2.1 (sWk hw hc) rfl rfl hls (rmk hR (by omega) (by omega)) hW hdg kk
def s_X10_learnBoard_11 (L : List Nat) (p1 : Nat) (p2 : Int32) (p3 : Int32) (p4 : Int32) (self2 : Int32 → gMem → Option gMem) (x3 : Int32) (m4 : gMem) : Option gMem := if (12 : Int32) ≤ x3 then (some m4) else bd (d_kind L m4 p1) fun (x5 : Int32) => bd2 (f_X2_loud L m4 p2 p3 p4 x5 x3) fun (x7 : Int32) (m6 : gMem) => bd (d_noise L m6 p1 x7 x3) fun (x8 : Int32) => if okI ((x3 * (12 : Int32)) + p2) 144 then lt1 (gsI m6 33 (ix ((x3 * (12 : Int32)) + p2)) x8) fun (m9 : gMem) => lt1 (x3 + (1 : Int32)) fun (x10 : Int32) => (self2 x10 m9) else none
def f_X10_learnBoard (L : List Nat) (mem : gMem) (p1 : Nat) (p2 : Int32) (p3 : Int32) (p4 : Int32) : Option gMem := bd (f_X11_isBoard p2) fun (x1 : Int32) => if x1 = 0 then (some mem) else lq2 (s_X10_learnBoard_11 L p1 p2 p3 p4) 1000 (0 : Int32) mem
set_option maxRecDepth 100000 in
set_option maxHeartbeats 4000000 in
theorem c_X10_learnBoard {l : Launch} {E : State → Prop} {D : va_G} {cy : Nat → ClassId} {ad : Nat → Nat} {L : List Nat} {mem : gMem} {p1 : Nat} {p2 : Int32} {p3 : Int32} {p4 : Int32} {memz : gMem} (hk : gOk ad L) (hL : ∀ o ∈ LX0, o ∈ L) (hE : gEok ad L E) (hp1 : wok L p1) (h : f_X10_learnBoard L mem p1 p2 p3 p4 = some memz) : gMet l yX10_learnBoard cX10_learnBoard 7 none 4 103 E D cy shX ad L [.ref (ad 32), .ref (ad 10), .ref (ad p1), .int p2, .int p3, .int p4] mem memz none := by
  refine g_go (own := RX10) (by decide +kernel) rfl hE (Nat.le_of_ble_eq_true rfl) ?_
  intro p e s m args below meth c R Q hargs hR hQ hEs hC hr hX H locs ls hH hl
  have hF := gF_of hk
  have hl : lv_has ls 7 [(0, .ref (ad 32)), (1, .ref (ad 10)), (2, .ref (ad p1)), (3, .int p2), (4, .int p3), (5, .int p4)] := hl
  refine lv_iload_n hC.x hC.b dX10_learnBoard_0 rfl (lv_at hl 3 rfl) ?_
  obtain ⟨x1, hf1, h⟩ := bd_e h
  refine c_SN1 (As := [.int p2]) (rest := []) (host := RX11) hC hX hE.2.1 hF hH (c_X11_isBoard (l := l) hk hL hE hf1) ((hE.2.2 _ hEs).1 (RX10, 49, yX11_isBoard, RX11) (by decide)) kw157 kw2 kw158 a_X11_isBoard.1 a_X11_isBoard.2 rfl hl.1 (rmk hR (by decide) (by decide)) (Nat.le_of_ble_eq_true rfl) dX10_learnBoard_1 (fun H locs hH => ?_)
  refine b_if_ne (tgt := 8) hC dX10_learnBoard_4 (by decide) h (fun h => ?_) (fun h => ?_)
  · refine lv_iconst (v := 0) hC.x hC.b dX10_learnBoard_8 rfl ?_
    refine lv_istore (lv' := [(6, .int (0 : Int32)), (0, .ref (ad 32)), (1, .ref (ad 10)), (2, .ref (ad p1)), (3, .int p2), (4, .int p3), (5, .int p4)]) hC.x hC.b dX10_learnBoard_9 hl (by decide) rfl (fun ls hl => ?_)
    have hl2 : ∀ (n : Nat) (x3 : Int32) (m4 : gMem) (H : Heap) (locs : List Loc) (ls : Array Slot), lq2 (s_X10_learnBoard_11 L p1 p2 p3 p4) n x3 m4 = some memz → gH D cy shX ad L (gA ad L) s.heap m4 H locs → lv_has ls 7 [(0, .ref (ad 32)), (1, .ref (ad 10)), (2, .ref (ad p1)), (3, .int p2), (4, .int p3), (5, .int p4), (6, .int x3)] → W p l e R s m args below meth c H locs 0 0 Q (F0 m 11 ls []) := by
      intro n
      induction n with
      | zero => intro x3 m4 H locs ls h _ _; exact lq2_0 h
      | succ n ih2 =>
        intro x3 m4 H locs ls h hH hl
        obtain ⟨self2, es2, h⟩ := lq2_s h
        refine lv_iload hC.x hC.b dX10_learnBoard_11 (lv_at hl 6 rfl) ?_
        refine lv_bipush (v := 12) hC.x hC.b dX10_learnBoard_13 rfl ?_
        refine b_ic_ge (tgt := 57) hC dX10_learnBoard_15 (by decide) h (fun h => ?_) (fun h => ?_)
        · rw [hQ]
          exact e_v hC hr hH h dX10_learnBoard_57
        · refine lv_aload_n hC.x hC.b dX10_learnBoard_18 rfl (lv_at hl 0 rfl) ?_
          refine r_getc (z := 33) hC hH fl_X10_9_10 (hL _ mX32) sX32 rfl dX10_learnBoard_19 ?_
          refine lv_iload hC.x hC.b dX10_learnBoard_22 (lv_at hl 6 rfl) ?_
          refine lv_bipush (v := 12) hC.x hC.b dX10_learnBoard_24 rfl ?_
          refine lv_imul hC.x hC.b dX10_learnBoard_26 ?_
          refine lv_iload_n hC.x hC.b dX10_learnBoard_27 rfl (lv_at hl 3 rfl) ?_
          refine lv_iadd hC.x hC.b dX10_learnBoard_28 ?_
          refine lv_aload_n hC.x hC.b dX10_learnBoard_29 rfl (lv_at hl 2 rfl) ?_
          refine lv_aload_n hC.x hC.b dX10_learnBoard_30 rfl (lv_at hl 1 rfl) ?_
          refine lv_iload_n hC.x hC.b dX10_learnBoard_31 rfl (lv_at hl 3 rfl) ?_
          refine lv_iload hC.x hC.b dX10_learnBoard_32 (lv_at hl 4 rfl) ?_
          refine lv_iload hC.x hC.b dX10_learnBoard_34 (lv_at hl 5 rfl) ?_
          refine lv_aload_n hC.x hC.b dX10_learnBoard_36 rfl (lv_at hl 2 rfl) ?_
          obtain ⟨x5, hf5, h⟩ := bd_e h
          refine v_X10_53_kind hC hX hk hL hE hF hH hp1 hf5 hl.1 hR (by decide) (by decide) (Nat.le_of_ble_eq_true rfl) dX10_learnBoard_37 (fun H locs hH => ?_)
          refine lv_iload hC.x hC.b dX10_learnBoard_40 (lv_at hl 6 rfl) ?_
          obtain ⟨x7, m6, hf7, h⟩ := bd2_e h
          refine c_V1 (As := [.int p2, .int p3, .int p4, .int x5, .int x3]) (rest := [.ref (ad p1), .int ((x3 * (12 : Int32)) + p2), .ref (ad 33)]) (o := 10) (q := (RX2, TX2, 17)) hC hX hE.2.1 hF hH (c_X2_loud (l := l) hk hL hE hf7) kw815 kw304 kw305 kw15 kw306 a_X2_loud.1 a_X2_loud.2 (hL _ mX10) sX10 rfl rfl hl.1 (rmk hR (by decide) (by decide)) (Nat.le_of_ble_eq_true rfl) dX10_learnBoard_42 (fun H locs hH => ?_)
          refine lv_iload hC.x hC.b dX10_learnBoard_45 (lv_at hl 6 rfl) ?_
          obtain ⟨x8, hf8, h⟩ := bd_e h
          refine v_X10_60_noise hC hX hk hL hE hF hH hp1 hf8 hl.1 hR (by decide) (by decide) (Nat.le_of_ble_eq_true rfl) dX10_learnBoard_47 (fun H locs hH => ?_)
          refine r_iast hC hF hH (hL _ mX33) sX33 h dX10_learnBoard_50 (fun m9 H locs h hH => ?_)
          refine i_inc (lv' := fun x10 => [(6, .int x10), (0, .ref (ad 32)), (1, .ref (ad 10)), (2, .ref (ad p1)), (3, .int p2), (4, .int p3), (5, .int p4)]) hC dX10_learnBoard_51 hl (k := 6) rfl (by decide) (fun _ => rfl) (z := 1) rfl h (fun x10 ls h hl => ?_)
          refine lv_goto (tgt := 11) hC.x hC.b dX10_learnBoard_54 (by decide) ?_
          exact ih2 x10 m9 H locs ls (ap2 es2 h) hH (lv_sub hl [1, 2, 3, 4, 5, 6, 0] rfl)
    exact hl2 _ (0 : Int32) mem H locs ls h hH (lv_sub hl [1, 2, 3, 4, 5, 6, 0] rfl)
  · rw [hQ]
    exact e_v hC hr hH h dX10_learnBoard_7
theorem a_X2_noise : noMH yX2_noise.cls ∧ arity yX2_noise.desc 3 := by decide +kernel
theorem fw_X11_97 : ∀ j, j < 7 → gFl RX11 97 (kci j) 1 := by
  intro j hj
  rcases (show j = 0 ∨ j = 1 ∨ j = 2 ∨ j = 3 ∨ j = 4 ∨ j = 5 ∨ j = 6 by omega) with rfl | rfl | rfl | rfl | rfl | rfl | rfl
  · exact ⟨RX9, TX9, 6, "OnTiptoe$Walker", rfl, inW9, by decide, kw264, Or.inl rfl⟩
  · exact ⟨RX1, TX1, 6, "OnTiptoe$Walker", rfl, inW1, by decide, kw264, Or.inl rfl⟩
  · exact ⟨RX6, TX6, 6, "OnTiptoe$Walker", rfl, inW6, by decide, kw264, Or.inl rfl⟩
  · exact ⟨RX5, TX5, 6, "OnTiptoe$Walker", rfl, inW5, by decide, kw264, Or.inl rfl⟩
  · exact ⟨RX7, TX7, 6, "OnTiptoe$Walker", rfl, inW7, by decide, kw264, Or.inl rfl⟩
  · exact ⟨RX0, TX0, 6, "OnTiptoe$Walker", rfl, inW0, by decide, kw264, Or.inl rfl⟩
  · exact ⟨RX8, TX8, 8, "OnTiptoe$Walker", rfl, inW8, by decide, kw264, Or.inl rfl⟩
def f_X11_of (L : List Nat) (mem : gMem) (p0 : Int32) (p1 : Int32) : Option (Int32 × gMem) := bd (f_X11_find L mem p0) fun (o1 : Option Nat) => oc o1 (some ((-1 : Int32), mem)) fun w2 => if wok L w2 then if p1 = 0 then (bd (d_kind L mem w2) fun (x5 : Int32) => some (x5, mem)) else if p1 = (1 : Int32) then (some ((gI mem w2 1), mem)) else if p1 = (2 : Int32) then (some ((gI mem w2 2), mem)) else if p1 < (10 : Int32) then (some ((-1 : Int32), mem)) else if p1 < (22 : Int32) then (bd2 (f_X2_noise L mem w2 (p1 - (10 : Int32)) (gI mem 10 4)) fun (x4 : Int32) (m3 : gMem) => some (x4, m3)) else some ((-1 : Int32), mem) else none
set_option maxRecDepth 100000 in
set_option maxHeartbeats 4000000 in
theorem c_X11_of {l : Launch} {E : State → Prop} {D : va_G} {cy : Nat → ClassId} {ad : Nat → Nat} {L : List Nat} {mem : gMem} {p0 : Int32} {p1 : Int32} {rv : Int32} {memz : gMem} (hk : gOk ad L) (hL : ∀ o ∈ LX0, o ∈ L) (hE : gEok ad L E)  (h : f_X11_of L mem p0 p1 = some (rv, memz)) : gMet l yX11_of cX11_of 4 (some .int) 5 126 E D cy shX ad L [.ref (ad 0), .int p0, .int p1] mem memz (some (.int rv)) := by
  refine g_go (own := RX11) (by decide +kernel) rfl hE (Nat.le_of_ble_eq_true rfl) ?_
  intro p e s m args below meth c R Q hargs hR hQ hEs hC hr hX H locs ls hH hl
  have hF := gF_of hk
  have hl : lv_has ls 4 [(0, .ref (ad 0)), (1, .int p0), (2, .int p1)] := hl
  refine lv_aload_n hC.x hC.b dX11_of_0 rfl (lv_at hl 0 rfl) ?_
  refine lv_iload_n hC.x hC.b dX11_of_1 rfl (lv_at hl 1 rfl) ?_
  obtain ⟨o1, hf1, h⟩ := bd_e h
  refine c_V1 (As := [.int p0]) (rest := []) (o := 0) (q := (RX11, TX11, 13)) hC hX hE.2.1 hF hH (c_X11_find (l := l) hk hL hE hf1) kw267 kw268 kw269 kw2 kw270 a_X11_find.1 a_X11_find.2 (hL _ mX0) sX0 rfl rfl hl.1 (rmk hR (by decide) (by decide)) (Nat.le_of_ble_eq_true rfl) dX11_of_2 (fun H locs hH => ?_)
  refine o_astn (lv' := [(3, va_rf (Option.map ad o1)), (0, .ref (ad 0)), (1, .int p0), (2, .int p1)]) hC dX11_of_5 rfl hl (by decide) rfl (fun ls hl => ?_)
  refine o_aldn hC dX11_of_6 rfl (lv_at hl 0 rfl) ?_
  refine b_nonnull (tgt := 12) hC dX11_of_7 (by decide) h (fun ho h => ?_) (fun w2 hyw2 h => ?_)
  · subst ho
    have hl : lv_has ls 4 [(3, .null), (0, .ref (ad 0)), (1, .int p0), (2, .int p1)] := hl
    refine lv_iconst (v := -1) hC.x hC.b dX11_of_10 rfl ?_
    rw [hQ]
    exact e_i hC hr hH h dX11_of_11
  · subst hyw2
    have hl : lv_has ls 4 [(3, .ref (ad w2)), (0, .ref (ad 0)), (1, .int p0), (2, .int p1)] := hl
    obtain ⟨hww2, h⟩ := chk h
    refine lv_iload_n hC.x hC.b dX11_of_12 rfl (lv_at hl 3 rfl) ?_
    refine b_if_ne (tgt := 21) hC dX11_of_13 (by decide) h (fun h => ?_) (fun h => ?_)
    · refine lv_iload_n hC.x hC.b dX11_of_21 rfl (lv_at hl 3 rfl) ?_
      refine lv_iconst (v := 1) hC.x hC.b dX11_of_22 rfl ?_
      refine b_ic_ne (tgt := 31) hC dX11_of_23 (by decide) h (fun h => ?_) (fun h => ?_)
      · refine lv_iload_n hC.x hC.b dX11_of_31 rfl (lv_at hl 3 rfl) ?_
        refine lv_iconst (v := 2) hC.x hC.b dX11_of_32 rfl ?_
        refine b_ic_ne (tgt := 41) hC dX11_of_33 (by decide) h (fun h => ?_) (fun h => ?_)
        · refine lv_iload_n hC.x hC.b dX11_of_41 rfl (lv_at hl 3 rfl) ?_
          refine lv_bipush (v := 10) hC.x hC.b dX11_of_42 rfl ?_
          refine b_ic_lt (tgt := 53) hC dX11_of_44 (by decide) h (fun h => ?_) (fun h => ?_)
          · refine lv_iconst (v := -1) hC.x hC.b dX11_of_53 rfl ?_
            rw [hQ]
            exact e_i hC hr hH h dX11_of_54
          · refine lv_iload_n hC.x hC.b dX11_of_47 rfl (lv_at hl 3 rfl) ?_
            refine lv_bipush (v := 22) hC.x hC.b dX11_of_48 rfl ?_
            refine b_ic_lt (tgt := 55) hC dX11_of_50 (by decide) h (fun h => ?_) (fun h => ?_)
            · refine lv_aload_n hC.x hC.b dX11_of_55 rfl (lv_at hl 1 rfl) ?_
              refine r_getc (z := 10) hC hH fl_X11_12_11 (hL _ mX0) sX0 rfl dX11_of_56 ?_
              refine lv_aload_n hC.x hC.b dX11_of_59 rfl (lv_at hl 0 rfl) ?_
              refine lv_iload_n hC.x hC.b dX11_of_60 rfl (lv_at hl 3 rfl) ?_
              refine lv_bipush (v := 10) hC.x hC.b dX11_of_61 rfl ?_
              refine lv_isub hC.x hC.b dX11_of_63 ?_
              refine lv_aload_n hC.x hC.b dX11_of_64 rfl (lv_at hl 1 rfl) ?_
              refine r_getc (z := 10) hC hH fl_X11_12_11 (hL _ mX0) sX0 rfl dX11_of_65 ?_
              refine r_geti hC hH fl_X11_103_2 (hL _ mX10) sX10 rfl dX11_of_68 ?_
              obtain ⟨x4, m3, hf4, h⟩ := bd2_e h
              refine c_V1 (As := [.ref (ad w2), .int (p1 - (10 : Int32)), .int (gI mem 10 4)]) (rest := []) (o := 10) (q := (RX2, TX2, 17)) hC hX hE.2.1 hF hH (c_X2_noise (l := l) hk hL hE hww2 hf4) kw296 kw297 kw298 kw15 kw299 a_X2_noise.1 a_X2_noise.2 (hL _ mX10) sX10 rfl rfl hl.1 (rmk hR (by decide) (by decide)) (Nat.le_of_ble_eq_true rfl) dX11_of_71 (fun H locs hH => ?_)
              rw [hQ]
              exact e_i hC hr hH h dX11_of_74
            · refine lv_iconst (v := -1) hC.x hC.b dX11_of_53 rfl ?_
              rw [hQ]
              exact e_i hC hr hH h dX11_of_54
        · refine lv_aload_n hC.x hC.b dX11_of_36 rfl (lv_at hl 0 rfl) ?_
          refine r_geti hC hH (fw_X11_100 _ hww2.2.2.1) hww2.2.2.2.1 (sW0 hww2) rfl dX11_of_37 ?_
          rw [hQ]
          exact e_i hC hr hH h dX11_of_40
      · refine lv_aload_n hC.x hC.b dX11_of_26 rfl (lv_at hl 0 rfl) ?_
        refine r_geti hC hH (fw_X11_97 _ hww2.2.2.1) hww2.2.2.2.1 (sW0 hww2) rfl dX11_of_27 ?_
        rw [hQ]
        exact e_i hC hr hH h dX11_of_30
    · refine lv_aload_n hC.x hC.b dX11_of_16 rfl (lv_at hl 0 rfl) ?_
      obtain ⟨x5, hf5, h⟩ := bd_e h
      refine v_X11_93_kind hC hX hk hL hE hF hH hww2 hf5 hl.1 hR (by decide) (by decide) (Nat.le_of_ble_eq_true rfl) dX11_of_17 (fun H locs hH => ?_)
      rw [hQ]
      exact e_i hC hr hH h dX11_of_20
def d_stepMinutes (L : List Nat) (mem : gMem) (w : Nat) : Option Int32 := if wkd w = 0 then f_X9_stepMinutes L w  else if wkd w = 1 then f_X9_stepMinutes L w  else if wkd w = 2 then f_X9_stepMinutes L w  else if wkd w = 3 then f_X5_stepMinutes L w  else if wkd w = 4 then f_X9_stepMinutes L w  else if wkd w = 5 then f_X9_stepMinutes L w  else f_X5_stepMinutes L w 
theorem a_X9_stepMinutes : noMH yX9_stepMinutes.cls ∧ arity yX9_stepMinutes.desc 0 := by decide +kernel
theorem a_X5_stepMinutes : noMH yX5_stepMinutes.cls ∧ arity yX5_stepMinutes.desc 0 := by decide +kernel
theorem v_X11_147_stepMinutes {p : Program} {l : Launch} {e : Env} {R : Room} {s : State} {m : MethodId} {args : Array Value} {below : List Frame} {meth : Method} {c : Code} {H : Heap} {locs : List Loc} {Q : State → Prop} {cc : ByteArray} {nL : Nat} {pc : Nat} {ls : Array Slot} {rest : List Value} {D : va_G} {cy : Nat → ClassId} {ad : Nat → Nat} {L : List Nat} {mem : gMem} {E : State → Prop} {fr0 lo0 w : Nat} {rv : Int32} (hC : gC p s m args meth c cc nL RX11 D cy) (hX : gX (gA ad L) s E) (hk : gOk ad L) (hL : ∀ o ∈ LX0, o ∈ L) (hE : gEok ad L E) (hF : gF ad L (gA ad L)) (hH : gH D cy shX ad L (gA ad L) s.heap mem H locs) (hw : wok L w) (hf : d_stepMinutes L mem w  = some rv) (hls : ls.size = nL) (hR : R = gRm fr0 lo0) (h1 : 1 ≤ fr0) (h2 : 20 ≤ lo0) (hW : (rest.map fun v => v.category).sum ≤ 8) (hdg : decode cc pc = .ok (.invokevirtual 147, 3))
    (kk : ∀ (H1 : Heap) (locs1 : List Loc), gH D cy shX ad L (gA ad L) s.heap mem H1 locs1 → W p l e R s m args below meth c H1 locs1 0 0 Q (F0 m (pc + 3) ls (.int rv :: rest))) : W p l e R s m args below meth c H locs 0 0 Q (F0 m pc ls (.ref (ad w) :: rest)) := by
  have hk7 := hw.2.2.1
  unfold d_stepMinutes at hf
  by_cases hc : wkd w = 0
  · have hf := ifp hc hf
    exact c_U1 (As := []) (rest := rest) (o := w) (x := ⟨"OnTiptoe$Walker", "stepMinutes", "()I"⟩) (owner := "OnTiptoe$Walker") (b0 := cX9_stepMinutes) (m0 := 1) (r0 := (some .int)) (q := (RX9, TX9, 6)) hC hX hE.2.1 hF hH (c_X9_stepMinutes (l := l) (mem := mem) hk hL hE hw hf) kw725 kw726 kw739 kw221 kw729 kw728 kw728 kw729 (by decide +kernel) a_X9_stepMinutes.2 hw.2.2.2.1 (sWk hw hc) rfl rfl hls (rmk hR (by omega) (by omega)) hW hdg kk
  have hf := ifn hc hf
  have hz0 := hc
  clear hc
  by_cases hc : wkd w = 1
  · have hf := ifp hc hf
    exact c_U1 (As := []) (rest := rest) (o := w) (x := ⟨"OnTiptoe$Walker", "stepMinutes", "()I"⟩) (owner := "OnTiptoe$Walker") (b0 := cX9_stepMinutes) (m0 := 1) (r0 := (some .int)) (q := (RX1, TX1, 6)) hC hX hE.2.1 hF hH (c_X9_stepMinutes (l := l) (mem := mem) hk hL hE hw hf) kw725 kw726 kw730 kw221 kw729 kw728 kw728 kw729 (by decide +kernel) a_X9_stepMinutes.2 hw.2.2.2.1 (sWk hw hc) rfl rfl hls (rmk hR (by omega) (by omega)) hW hdg kk
  have hf := ifn hc hf
  have hz1 := hc
  clear hc
  by_cases hc : wkd w = 2
  · have hf := ifp hc hf
    exact c_U1 (As := []) (rest := rest) (o := w) (x := ⟨"OnTiptoe$Walker", "stepMinutes", "()I"⟩) (owner := "OnTiptoe$Walker") (b0 := cX9_stepMinutes) (m0 := 1) (r0 := (some .int)) (q := (RX6, TX6, 6)) hC hX hE.2.1 hF hH (c_X9_stepMinutes (l := l) (mem := mem) hk hL hE hw hf) kw725 kw726 kw735 kw221 kw729 kw728 kw728 kw729 (by decide +kernel) a_X9_stepMinutes.2 hw.2.2.2.1 (sWk hw hc) rfl rfl hls (rmk hR (by omega) (by omega)) hW hdg kk
  have hf := ifn hc hf
  have hz2 := hc
  clear hc
  by_cases hc : wkd w = 3
  · have hf := ifp hc hf
    exact c_U1 (As := []) (rest := rest) (o := w) (x := ⟨"OnTiptoe$Walker", "stepMinutes", "()I"⟩) (owner := "OnTiptoe$Walker") (b0 := cX9_stepMinutes) (m0 := 1) (r0 := (some .int)) (q := (RX5, TX5, 6)) hC hX hE.2.1 hF hH (c_X5_stepMinutes (l := l) (mem := mem) hk hL hE hw (by omega) hf) kw725 kw726 kw732 kw210 kw734 kw733 kw728 kw729 (by decide +kernel) a_X5_stepMinutes.2 hw.2.2.2.1 (sWk hw hc) rfl rfl hls (rmk hR (by omega) (by omega)) hW hdg kk
  have hf := ifn hc hf
  have hz3 := hc
  clear hc
  by_cases hc : wkd w = 4
  · have hf := ifp hc hf
    exact c_U1 (As := []) (rest := rest) (o := w) (x := ⟨"OnTiptoe$Walker", "stepMinutes", "()I"⟩) (owner := "OnTiptoe$Walker") (b0 := cX9_stepMinutes) (m0 := 1) (r0 := (some .int)) (q := (RX7, TX7, 6)) hC hX hE.2.1 hF hH (c_X9_stepMinutes (l := l) (mem := mem) hk hL hE hw hf) kw725 kw726 kw736 kw221 kw729 kw728 kw728 kw729 (by decide +kernel) a_X9_stepMinutes.2 hw.2.2.2.1 (sWk hw hc) rfl rfl hls (rmk hR (by omega) (by omega)) hW hdg kk
  have hf := ifn hc hf
  have hz4 := hc
  clear hc
  by_cases hc : wkd w = 5
  · have hf := ifp hc hf
    exact c_U1 (As := []) (rest := rest) (o := w) (x := ⟨"OnTiptoe$Walker", "stepMinutes", "()I"⟩) (owner := "OnTiptoe$Walker") (b0 := cX9_stepMinutes) (m0 := 1) (r0 := (some .int)) (q := (RX0, TX0, 6)) hC hX hE.2.1 hF hH (c_X9_stepMinutes (l := l) (mem := mem) hk hL hE hw hf) kw725 kw726 kw727 kw221 kw729 kw728 kw728 kw729 (by decide +kernel) a_X9_stepMinutes.2 hw.2.2.2.1 (sWk hw hc) rfl rfl hls (rmk hR (by omega) (by omega)) hW hdg kk
  have hf := ifn hc hf
  have hz5 := hc
  clear hc
  have hc : wkd w = 6 := by omega
  exact c_U1 (As := []) (rest := rest) (o := w) (x := ⟨"OnTiptoe$Walker", "stepMinutes", "()I"⟩) (owner := "OnTiptoe$Walker") (b0 := cX9_stepMinutes) (m0 := 1) (r0 := (some .int)) (q := (RX8, TX8, 8)) hC hX hE.2.1 hF hH (c_X5_stepMinutes (l := l) (mem := mem) hk hL hE hw (by omega) hf) kw725 kw726 kw737 kw210 kw734 kw733 kw728 kw729 (by decide +kernel) a_X5_stepMinutes.2 hw.2.2.2.1 (sWk hw hc) rfl rfl hls (rmk hR (by omega) (by omega)) hW hdg kk
def f_X11_step (L : List Nat) (mem : gMem) (p0 : Int32) (p1 : Int32) : Option (Int32 × gMem) := bd (f_X11_find L mem p0) fun (o1 : Option Nat) => oc o1 (some ((-1 : Int32), mem)) fun w2 => if wok L w2 then bd (f_X11_isBoard p1) fun (x3 : Int32) => if x3 = 0 then (some ((-1 : Int32), mem)) else bd (f_X11_areBeside (gI mem w2 2) p1) fun (x4 : Int32) => if x4 = 0 then (some ((-2 : Int32), mem)) else if (gI mem 10 6) = 0 then (if (gI mem 10 4) ≤ (9990 : Int32) then (bd (d_stepMinutes L mem w2) fun (x5 : Int32) => lt1 (gsI mem 10 4 ((gI mem 10 4) + x5)) fun (m6 : gMem) => lt1 (gsI m6 w2 2 p1) fun (m7 : gMem) => bd2 (f_X2_noise L m7 w2 p1 (gI m7 10 4)) fun (x9 : Int32) (m8 : gMem) => bd2 (f_X2_depth L m8 (gI m8 10 4)) fun (x11 : Int32) (m10 : gMem) => bd (f_X11_stirsBehind x9 x11 (gI m10 10 5)) fun (x12 : Int32) => jn ((fun (x14 : Int32) => if isB x14 then lt1 (gsI m10 10 6 x14) fun (m15 : gMem) => jn ((fun (x17 : Int32) => lt1 (gsI m15 10 5 x17) fun (m18 : gMem) => some (x9, m18)) : Int32 → Option (Int32 × gMem)) fun j16 => if (gI m15 10 6) = 0 then ((j16 x12)) else (j16 (0 : Int32)) else none) : Int32 → Option (Int32 × gMem)) fun j13 => if x12 < (3 : Int32) then ((j13 (0 : Int32))) else (j13 (1 : Int32))) else some ((-3 : Int32), mem)) else some ((-3 : Int32), mem) else none
set_option maxRecDepth 100000 in
set_option maxHeartbeats 4000000 in
theorem c_X11_step {l : Launch} {E : State → Prop} {D : va_G} {cy : Nat → ClassId} {ad : Nat → Nat} {L : List Nat} {mem : gMem} {p0 : Int32} {p1 : Int32} {rv : Int32} {memz : gMem} (hk : gOk ad L) (hL : ∀ o ∈ LX0, o ∈ L) (hE : gEok ad L E)  (h : f_X11_step L mem p0 p1 = some (rv, memz)) : gMet l yX11_step cX11_step 6 (some .int) 5 126 E D cy shX ad L [.ref (ad 0), .int p0, .int p1] mem memz (some (.int rv)) := by
  refine g_go (own := RX11) (by decide +kernel) rfl hE (Nat.le_of_ble_eq_true rfl) ?_
  intro p e s m args below meth c R Q hargs hR hQ hEs hC hr hX H locs ls hH hl
  have hF := gF_of hk
  have hl : lv_has ls 6 [(0, .ref (ad 0)), (1, .int p0), (2, .int p1)] := hl
  refine lv_aload_n hC.x hC.b dX11_step_0 rfl (lv_at hl 0 rfl) ?_
  refine lv_iload_n hC.x hC.b dX11_step_1 rfl (lv_at hl 1 rfl) ?_
  obtain ⟨o1, hf1, h⟩ := bd_e h
  refine c_V1 (As := [.int p0]) (rest := []) (o := 0) (q := (RX11, TX11, 13)) hC hX hE.2.1 hF hH (c_X11_find (l := l) hk hL hE hf1) kw267 kw268 kw269 kw2 kw270 a_X11_find.1 a_X11_find.2 (hL _ mX0) sX0 rfl rfl hl.1 (rmk hR (by decide) (by decide)) (Nat.le_of_ble_eq_true rfl) dX11_step_2 (fun H locs hH => ?_)
  refine o_astn (lv' := [(3, va_rf (Option.map ad o1)), (0, .ref (ad 0)), (1, .int p0), (2, .int p1)]) hC dX11_step_5 rfl hl (by decide) rfl (fun ls hl => ?_)
  refine o_aldn hC dX11_step_6 rfl (lv_at hl 0 rfl) ?_
  refine b_null (tgt := 17) hC dX11_step_7 (by decide) h (fun ho h => ?_) (fun w2 hyw2 h => ?_)
  · subst ho
    have hl : lv_has ls 6 [(3, .null), (0, .ref (ad 0)), (1, .int p0), (2, .int p1)] := hl
    refine lv_iconst (v := -1) hC.x hC.b dX11_step_17 rfl ?_
    rw [hQ]
    exact e_i hC hr hH h dX11_step_18
  · subst hyw2
    have hl : lv_has ls 6 [(3, .ref (ad w2)), (0, .ref (ad 0)), (1, .int p0), (2, .int p1)] := hl
    obtain ⟨hww2, h⟩ := chk h
    refine lv_iload_n hC.x hC.b dX11_step_10 rfl (lv_at hl 3 rfl) ?_
    obtain ⟨x3, hf3, h⟩ := bd_e h
    refine c_S1 (As := [.int p1]) (rest := []) hC hX hE.2.1 hF hH (c_X11_isBoard (l := l) hk hL hE hf3) kw156 kw157 kw2 kw158 a_X11_isBoard.1 a_X11_isBoard.2 rfl hl.1 (rmk hR (by decide) (by decide)) (Nat.le_of_ble_eq_true rfl) dX11_step_11 (fun H locs hH => ?_)
    refine b_if_ne (tgt := 19) hC dX11_step_14 (by decide) h (fun h => ?_) (fun h => ?_)
    · refine lv_aload_n hC.x hC.b dX11_step_19 rfl (lv_at hl 0 rfl) ?_
      refine r_geti hC hH (fw_X11_100 _ hww2.2.2.1) hww2.2.2.2.1 (sW0 hww2) rfl dX11_step_20 ?_
      refine lv_iload_n hC.x hC.b dX11_step_23 rfl (lv_at hl 3 rfl) ?_
      obtain ⟨x4, hf4, h⟩ := bd_e h
      refine c_S1 (As := [.int (gI mem w2 2), .int p1]) (rest := []) hC hX hE.2.1 hF hH (c_X11_areBeside (l := l) hk hL hE hf4) kw719 kw720 kw2 kw721 a_X11_areBeside.1 a_X11_areBeside.2 rfl hl.1 (rmk hR (by decide) (by decide)) (Nat.le_of_ble_eq_true rfl) dX11_step_24 (fun H locs hH => ?_)
      refine b_if_ne (tgt := 33) hC dX11_step_27 (by decide) h (fun h => ?_) (fun h => ?_)
      · refine lv_aload_n hC.x hC.b dX11_step_33 rfl (lv_at hl 1 rfl) ?_
        refine r_getc (z := 10) hC hH fl_X11_12_11 (hL _ mX0) sX0 rfl dX11_step_34 ?_
        refine r_geti hC hH fl_X11_136_2 (hL _ mX10) sX10 rfl dX11_step_37 ?_
        refine b_if_ne (tgt := 56) hC dX11_step_40 (by decide) h (fun h => ?_) (fun h => ?_)
        · refine lv_bipush (v := -3) hC.x hC.b dX11_step_56 rfl ?_
          rw [hQ]
          exact e_i hC hr hH h dX11_step_58
        · refine lv_aload_n hC.x hC.b dX11_step_43 rfl (lv_at hl 1 rfl) ?_
          refine r_getc (z := 10) hC hH fl_X11_12_11 (hL _ mX0) sX0 rfl dX11_step_44 ?_
          refine r_geti hC hH fl_X11_103_2 (hL _ mX10) sX10 rfl dX11_step_47 ?_
          refine lv_sipush (v := 9990) hC.x hC.b dX11_step_50 rfl ?_
          refine b_ic_le (tgt := 59) hC dX11_step_53 (by decide) h (fun h => ?_) (fun h => ?_)
          · refine lv_aload_n hC.x hC.b dX11_step_59 rfl (lv_at hl 1 rfl) ?_
            refine r_getc (z := 10) hC hH fl_X11_12_11 (hL _ mX0) sX0 rfl dX11_step_60 ?_
            refine lv_dup hC.x hC.b dX11_step_63 rfl ?_
            refine r_geti hC hH fl_X11_103_2 (hL _ mX10) sX10 rfl dX11_step_64 ?_
            refine lv_aload_n hC.x hC.b dX11_step_67 rfl (lv_at hl 0 rfl) ?_
            obtain ⟨x5, hf5, h⟩ := bd_e h
            refine v_X11_147_stepMinutes hC hX hk hL hE hF hH hww2 hf5 hl.1 hR (by decide) (by decide) (Nat.le_of_ble_eq_true rfl) dX11_step_68 (fun H locs hH => ?_)
            refine lv_iadd hC.x hC.b dX11_step_71 ?_
            refine r_puti hC hF hH pl_X11_103_2 (hL _ mX10) sX10 rfl h dX11_step_72 (fun m6 H locs h hH => ?_)
            refine lv_aload_n hC.x hC.b dX11_step_75 rfl (lv_at hl 0 rfl) ?_
            refine lv_iload_n hC.x hC.b dX11_step_76 rfl (lv_at hl 3 rfl) ?_
            refine r_puti hC hF hH (pw_X11_100 _ hww2.2.2.1) hww2.2.2.2.1 (sW0 hww2) rfl h dX11_step_77 (fun m7 H locs h hH => ?_)
            refine lv_aload_n hC.x hC.b dX11_step_80 rfl (lv_at hl 1 rfl) ?_
            refine r_getc (z := 10) hC hH fl_X11_12_11 (hL _ mX0) sX0 rfl dX11_step_81 ?_
            refine lv_aload_n hC.x hC.b dX11_step_84 rfl (lv_at hl 0 rfl) ?_
            refine lv_iload_n hC.x hC.b dX11_step_85 rfl (lv_at hl 3 rfl) ?_
            refine lv_aload_n hC.x hC.b dX11_step_86 rfl (lv_at hl 1 rfl) ?_
            refine r_getc (z := 10) hC hH fl_X11_12_11 (hL _ mX0) sX0 rfl dX11_step_87 ?_
            refine r_geti hC hH fl_X11_103_2 (hL _ mX10) sX10 rfl dX11_step_90 ?_
            obtain ⟨x9, m8, hf9, h⟩ := bd2_e h
            refine c_V1 (As := [.ref (ad w2), .int p1, .int (gI m7 10 4)]) (rest := []) (o := 10) (q := (RX2, TX2, 17)) hC hX hE.2.1 hF hH (c_X2_noise (l := l) hk hL hE hww2 hf9) kw296 kw297 kw298 kw15 kw299 a_X2_noise.1 a_X2_noise.2 (hL _ mX10) sX10 rfl rfl hl.1 (rmk hR (by decide) (by decide)) (Nat.le_of_ble_eq_true rfl) dX11_step_93 (fun H locs hH => ?_)
            refine lv_istore (lv' := [(4, .int x9), (3, .ref (ad w2)), (0, .ref (ad 0)), (1, .int p0), (2, .int p1)]) hC.x hC.b dX11_step_96 hl (by decide) rfl (fun ls hl => ?_)
            refine lv_iload hC.x hC.b dX11_step_98 (lv_at hl 0 rfl) ?_
            refine lv_aload_n hC.x hC.b dX11_step_100 rfl (lv_at hl 2 rfl) ?_
            refine r_getc (z := 10) hC hH fl_X11_12_11 (hL _ mX0) sX0 rfl dX11_step_101 ?_
            refine lv_aload_n hC.x hC.b dX11_step_104 rfl (lv_at hl 2 rfl) ?_
            refine r_getc (z := 10) hC hH fl_X11_12_11 (hL _ mX0) sX0 rfl dX11_step_105 ?_
            refine r_geti hC hH fl_X11_103_2 (hL _ mX10) sX10 rfl dX11_step_108 ?_
            obtain ⟨x11, m10, hf11, h⟩ := bd2_e h
            refine c_V1 (As := [.int (gI m8 10 4)]) (rest := [.int x9]) (o := 10) (q := (RX2, TX2, 17)) hC hX hE.2.1 hF hH (c_X2_depth (l := l) hk hL hE hf11) kw695 kw696 kw697 kw15 kw698 a_X2_depth.1 a_X2_depth.2 (hL _ mX10) sX10 rfl rfl hl.1 (rmk hR (by decide) (by decide)) (Nat.le_of_ble_eq_true rfl) dX11_step_111 (fun H locs hH => ?_)
            refine lv_aload_n hC.x hC.b dX11_step_114 rfl (lv_at hl 2 rfl) ?_
            refine r_getc (z := 10) hC hH fl_X11_12_11 (hL _ mX0) sX0 rfl dX11_step_115 ?_
            refine r_geti hC hH fl_X11_133_2 (hL _ mX10) sX10 rfl dX11_step_118 ?_
            obtain ⟨x12, hf12, h⟩ := bd_e h
            refine c_S1 (As := [.int x9, .int x11, .int (gI m10 10 5)]) (rest := []) hC hX hE.2.1 hF hH (c_X11_stirsBehind (l := l) hk hL hE hf12) kw740 kw741 kw2 kw742 a_X11_stirsBehind.1 a_X11_stirsBehind.2 rfl hl.1 (rmk hR (by decide) (by decide)) (Nat.le_of_ble_eq_true rfl) dX11_step_121 (fun H locs hH => ?_)
            refine lv_istore (lv' := [(5, .int x12), (4, .int x9), (3, .ref (ad w2)), (0, .ref (ad 0)), (1, .int p0), (2, .int p1)]) hC.x hC.b dX11_step_124 hl (by decide) rfl (fun ls hl => ?_)
            refine lv_aload_n hC.x hC.b dX11_step_126 rfl (lv_at hl 3 rfl) ?_
            refine r_getc (z := 10) hC hH fl_X11_12_11 (hL _ mX0) sX0 rfl dX11_step_127 ?_
            refine lv_iload hC.x hC.b dX11_step_130 (lv_at hl 0 rfl) ?_
            refine lv_iconst (v := 3) hC.x hC.b dX11_step_132 rfl ?_
            obtain ⟨j13, ej13, h⟩ := jn_e h
            have hj13 : ∀ (x14 : Int32) (H : Heap) (locs : List Loc) (ls : Array Slot), (j13 x14) = some (rv, memz) → gH D cy shX ad L (gA ad L) s.heap m10 H locs → lv_has ls 6 [(0, .ref (ad 0)), (4, .int x9), (5, .int x12)] → W p l e R s m args below meth c H locs 0 0 Q (F0 m 141 ls [.int x14, .ref (ad 10)]) := by
              intro x14 H locs ls h hH hl
              have h := ap1 ej13 h
              refine r_putz hC hF hH pl_X11_136_2 (hL _ mX10) sX10 rfl h dX11_step_141 (fun m15 H locs h hH => ?_)
              refine lv_aload_n hC.x hC.b dX11_step_144 rfl (lv_at hl 0 rfl) ?_
              refine r_getc (z := 10) hC hH fl_X11_12_11 (hL _ mX0) sX0 rfl dX11_step_145 ?_
              refine lv_aload_n hC.x hC.b dX11_step_148 rfl (lv_at hl 0 rfl) ?_
              refine r_getc (z := 10) hC hH fl_X11_12_11 (hL _ mX0) sX0 rfl dX11_step_149 ?_
              refine r_geti hC hH fl_X11_136_2 (hL _ mX10) sX10 rfl dX11_step_152 ?_
              obtain ⟨j16, ej16, h⟩ := jn_e h
              have hj16 : ∀ (x17 : Int32) (H : Heap) (locs : List Loc) (ls : Array Slot), (j16 x17) = some (rv, memz) → gH D cy shX ad L (gA ad L) s.heap m15 H locs → lv_has ls 6 [(4, .int x9)] → W p l e R s m args below meth c H locs 0 0 Q (F0 m 164 ls [.int x17, .ref (ad 10)]) := by
                intro x17 H locs ls h hH hl
                have h := ap1 ej16 h
                refine r_puti hC hF hH pl_X11_133_2 (hL _ mX10) sX10 rfl h dX11_step_164 (fun m18 H locs h hH => ?_)
                refine lv_iload hC.x hC.b dX11_step_167 (lv_at hl 0 rfl) ?_
                rw [hQ]
                exact e_i hC hr hH h dX11_step_169
              clear ej16
              refine b_if_eq (tgt := 162) hC dX11_step_155 (by decide) h (fun h => ?_) (fun h => ?_)
              · refine lv_iload hC.x hC.b dX11_step_162 (lv_at hl 2 rfl) ?_
                exact hj16 x12 H locs ls h hH (lv_sub hl [1] rfl)
              · refine lv_iconst (v := 0) hC.x hC.b dX11_step_158 rfl ?_
                refine lv_goto (tgt := 164) hC.x hC.b dX11_step_159 (by decide) ?_
                exact hj16 (0 : Int32) H locs ls h hH (lv_sub hl [1] rfl)
            clear ej13
            refine b_ic_lt (tgt := 140) hC dX11_step_133 (by decide) h (fun h => ?_) (fun h => ?_)
            · refine lv_iconst (v := 0) hC.x hC.b dX11_step_140 rfl ?_
              exact hj13 (0 : Int32) H locs ls h hH (lv_sub hl [3, 1, 0] rfl)
            · refine lv_iconst (v := 1) hC.x hC.b dX11_step_136 rfl ?_
              refine lv_goto (tgt := 141) hC.x hC.b dX11_step_137 (by decide) ?_
              exact hj13 (1 : Int32) H locs ls h hH (lv_sub hl [3, 1, 0] rfl)
          · refine lv_bipush (v := -3) hC.x hC.b dX11_step_56 rfl ?_
            rw [hQ]
            exact e_i hC hr hH h dX11_step_58
      · refine lv_bipush (v := -2) hC.x hC.b dX11_step_30 rfl ?_
        rw [hQ]
        exact e_i hC hr hH h dX11_step_32
    · refine lv_iconst (v := -1) hC.x hC.b dX11_step_17 rfl ?_
      rw [hQ]
      exact e_i hC hr hH h dX11_step_18
theorem a_X11_fraction : noMH yX11_fraction.cls ∧ arity yX11_fraction.desc 3 := by decide +kernel
def s_X11_mean_36 (j2 : Int32 → gMem → Option (Int64 × gMem)) (L : List Nat) (p0 : Int32) (self3 : Int32 → Int32 → gMem → Option (Int64 × gMem)) (x4 : Int32) (x5 : Int32) (m6 : gMem) : Option (Int64 × gMem) := if (gI m6 10 3) ≤ x5 then ((j2 x4 m6)) else bd (f_X11_find L m6 x5) fun (o7 : Option Nat) => jn ((fun (x13 : Int32) (m14 : gMem) => lt1 (x5 + (1 : Int32)) fun (x15 : Int32) => (self3 x13 x15 m14)) : Int32 → gMem → Option (Int64 × gMem)) fun j8 => oc o7 ((j8 x4 m6)) fun w9 => if wok L w9 then bd2 (f_X2_noise L m6 w9 p0 (gI m6 10 4)) fun (x11 : Int32) (m10 : gMem) => lt1 (x4 + x11) fun (x12 : Int32) => (j8 x12 m10) else none
def f_X11_mean (L : List Nat) (mem : gMem) (p0 : Int32) (p1 : Int32) : Option (Int64 × gMem) := bd (f_X11_isBoard p0) fun (x1 : Int32) => if x1 = 0 then (some ((-9223372036854775808 : Int64), mem)) else if p1 < 0 then (some ((-9223372036854775808 : Int64), mem)) else if (1 : Int32) < p1 then (some ((-9223372036854775808 : Int64), mem)) else if (1 : Int32) ≤ (gI mem 10 3) then (jn ((fun (x16 : Int32) (m17 : gMem) => bd (f_X11_fraction x16 (gI m17 10 3) p1) fun (y18 : Int64) => some (y18, m17)) : Int32 → gMem → Option (Int64 × gMem)) fun j2 => lq3 (s_X11_mean_36 j2 L p0) 1000 (0 : Int32) (0 : Int32) mem) else some ((-9223372036854775808 : Int64), mem)
set_option maxRecDepth 100000 in
set_option maxHeartbeats 4000000 in
theorem c_X11_mean {l : Launch} {E : State → Prop} {D : va_G} {cy : Nat → ClassId} {ad : Nat → Nat} {L : List Nat} {mem : gMem} {p0 : Int32} {p1 : Int32} {rv : Int64} {memz : gMem} (hk : gOk ad L) (hL : ∀ o ∈ LX0, o ∈ L) (hE : gEok ad L E)  (h : f_X11_mean L mem p0 p1 = some (rv, memz)) : gMet l yX11_mean cX11_mean 6 (some .long) 5 126 E D cy shX ad L [.ref (ad 0), .int p0, .int p1] mem memz (some (.long rv)) := by
  refine g_go (own := RX11) (by decide +kernel) rfl hE (Nat.le_of_ble_eq_true rfl) ?_
  intro p e s m args below meth c R Q hargs hR hQ hEs hC hr hX H locs ls hH hl
  have hF := gF_of hk
  have hl : lv_has ls 6 [(0, .ref (ad 0)), (1, .int p0), (2, .int p1)] := hl
  refine lv_iload_n hC.x hC.b dX11_mean_0 rfl (lv_at hl 1 rfl) ?_
  obtain ⟨x1, hf1, h⟩ := bd_e h
  refine c_S1 (As := [.int p0]) (rest := []) hC hX hE.2.1 hF hH (c_X11_isBoard (l := l) hk hL hE hf1) kw156 kw157 kw2 kw158 a_X11_isBoard.1 a_X11_isBoard.2 rfl hl.1 (rmk hR (by decide) (by decide)) (Nat.le_of_ble_eq_true rfl) dX11_mean_1 (fun H locs hH => ?_)
  refine b_if_eq (tgt := 27) hC dX11_mean_4 (by decide) h (fun h => ?_) (fun h => ?_)
  · refine lv_ldc2 (v := -9223372036854775808) hC.x hC.b hC.ow (hC.ts _ kw998) dX11_mean_27 ?_
    rw [hQ]
    exact e_l hC hr hH h dX11_mean_30
  · refine lv_iload_n hC.x hC.b dX11_mean_7 rfl (lv_at hl 2 rfl) ?_
    refine b_if_lt (tgt := 27) hC dX11_mean_8 (by decide) h (fun h => ?_) (fun h => ?_)
    · refine lv_ldc2 (v := -9223372036854775808) hC.x hC.b hC.ow (hC.ts _ kw998) dX11_mean_27 ?_
      rw [hQ]
      exact e_l hC hr hH h dX11_mean_30
    · refine lv_iload_n hC.x hC.b dX11_mean_11 rfl (lv_at hl 2 rfl) ?_
      refine lv_iconst (v := 1) hC.x hC.b dX11_mean_12 rfl ?_
      refine b_ic_gt (tgt := 27) hC dX11_mean_13 (by decide) h (fun h => ?_) (fun h => ?_)
      · refine lv_ldc2 (v := -9223372036854775808) hC.x hC.b hC.ow (hC.ts _ kw998) dX11_mean_27 ?_
        rw [hQ]
        exact e_l hC hr hH h dX11_mean_30
      · refine lv_aload_n hC.x hC.b dX11_mean_16 rfl (lv_at hl 0 rfl) ?_
        refine r_getc (z := 10) hC hH fl_X11_12_11 (hL _ mX0) sX0 rfl dX11_mean_17 ?_
        refine r_geti hC hH fl_X11_82_2 (hL _ mX10) sX10 rfl dX11_mean_20 ?_
        refine lv_iconst (v := 1) hC.x hC.b dX11_mean_23 rfl ?_
        refine b_ic_ge (tgt := 31) hC dX11_mean_24 (by decide) h (fun h => ?_) (fun h => ?_)
        · refine lv_iconst (v := 0) hC.x hC.b dX11_mean_31 rfl ?_
          refine lv_istore_n (lv' := [(3, .int (0 : Int32)), (0, .ref (ad 0)), (1, .int p0), (2, .int p1)]) hC.x hC.b dX11_mean_32 rfl hl (by decide) rfl (fun ls hl => ?_)
          refine lv_iconst (v := 0) hC.x hC.b dX11_mean_33 rfl ?_
          refine lv_istore (lv' := [(4, .int (0 : Int32)), (3, .int (0 : Int32)), (0, .ref (ad 0)), (1, .int p0), (2, .int p1)]) hC.x hC.b dX11_mean_34 hl (by decide) rfl (fun ls hl => ?_)
          obtain ⟨j2, ej2, h⟩ := jn_e h
          have hj2 : ∀ (x16 : Int32) (m17 : gMem) (H : Heap) (locs : List Loc) (ls : Array Slot), (j2 x16 m17) = some (rv, memz) → gH D cy shX ad L (gA ad L) s.heap m17 H locs → lv_has ls 6 [(0, .ref (ad 0)), (2, .int p1), (3, .int x16)] → W p l e R s m args below meth c H locs 0 0 Q (F0 m 87 ls []) := by
            intro x16 m17 H locs ls h hH hl
            have h := ap2 ej2 h
            refine lv_iload_n hC.x hC.b dX11_mean_87 rfl (lv_at hl 2 rfl) ?_
            refine lv_aload_n hC.x hC.b dX11_mean_88 rfl (lv_at hl 0 rfl) ?_
            refine r_getc (z := 10) hC hH fl_X11_12_11 (hL _ mX0) sX0 rfl dX11_mean_89 ?_
            refine r_geti hC hH fl_X11_82_2 (hL _ mX10) sX10 rfl dX11_mean_92 ?_
            refine lv_iload_n hC.x hC.b dX11_mean_95 rfl (lv_at hl 1 rfl) ?_
            obtain ⟨y18, hf18, h⟩ := bd_e h
            refine c_S1 (As := [.int x16, .int (gI m17 10 3), .int p1]) (rest := []) hC hX hE.2.1 hF hH (c_X11_fraction (l := l) hk hL hE hf18) kw999 kw1000 kw2 kw1001 a_X11_fraction.1 a_X11_fraction.2 rfl hl.1 (rmk hR (by decide) (by decide)) (Nat.le_of_ble_eq_true rfl) dX11_mean_96 (fun H locs hH => ?_)
            rw [hQ]
            exact e_l hC hr hH h dX11_mean_99
          clear ej2
          have hl3 : ∀ (n : Nat) (x4 : Int32) (x5 : Int32) (m6 : gMem) (H : Heap) (locs : List Loc) (ls : Array Slot), lq3 (s_X11_mean_36 j2 L p0) n x4 x5 m6 = some (rv, memz) → gH D cy shX ad L (gA ad L) s.heap m6 H locs → lv_has ls 6 [(0, .ref (ad 0)), (1, .int p0), (2, .int p1), (3, .int x4), (4, .int x5)] → W p l e R s m args below meth c H locs 0 0 Q (F0 m 36 ls []) := by
            intro n
            induction n with
            | zero => intro x4 x5 m6 H locs ls h _ _; exact lq3_0 h
            | succ n ih3 =>
              intro x4 x5 m6 H locs ls h hH hl
              obtain ⟨self3, es3, h⟩ := lq3_s h
              refine lv_iload hC.x hC.b dX11_mean_36 (lv_at hl 4 rfl) ?_
              refine lv_aload_n hC.x hC.b dX11_mean_38 rfl (lv_at hl 0 rfl) ?_
              refine r_getc (z := 10) hC hH fl_X11_12_11 (hL _ mX0) sX0 rfl dX11_mean_39 ?_
              refine r_geti hC hH fl_X11_82_2 (hL _ mX10) sX10 rfl dX11_mean_42 ?_
              refine b_ic_ge (tgt := 87) hC dX11_mean_45 (by decide) h (fun h => ?_) (fun h => ?_)
              · exact hj2 x4 m6 H locs ls h hH (lv_sub hl [0, 2, 3] rfl)
              · refine lv_aload_n hC.x hC.b dX11_mean_48 rfl (lv_at hl 0 rfl) ?_
                refine lv_iload hC.x hC.b dX11_mean_49 (lv_at hl 4 rfl) ?_
                obtain ⟨o7, hf7, h⟩ := bd_e h
                refine c_V1 (As := [.int x5]) (rest := []) (o := 0) (q := (RX11, TX11, 13)) hC hX hE.2.1 hF hH (c_X11_find (l := l) hk hL hE hf7) kw267 kw268 kw269 kw2 kw270 a_X11_find.1 a_X11_find.2 (hL _ mX0) sX0 rfl rfl hl.1 (rmk hR (by decide) (by decide)) (Nat.le_of_ble_eq_true rfl) dX11_mean_51 (fun H locs hH => ?_)
                refine o_ast (lv' := [(5, va_rf (Option.map ad o7)), (0, .ref (ad 0)), (1, .int p0), (2, .int p1), (3, .int x4), (4, .int x5)]) hC dX11_mean_54 hl (by decide) rfl (fun ls hl => ?_)
                refine o_ald hC dX11_mean_56 (lv_at hl 0 rfl) ?_
                obtain ⟨j8, ej8, h⟩ := jn_e h
                have hj8 : ∀ (x13 : Int32) (m14 : gMem) (H : Heap) (locs : List Loc) (ls : Array Slot), (j8 x13 m14) = some (rv, memz) → gH D cy shX ad L (gA ad L) s.heap m14 H locs → lv_has ls 6 [(0, .ref (ad 0)), (1, .int p0), (2, .int p1), (3, .int x13), (4, .int x5)] → W p l e R s m args below meth c H locs 0 0 Q (F0 m 81 ls []) := by
                  intro x13 m14 H locs ls h hH hl
                  have h := ap2 ej8 h
                  refine i_inc (lv' := fun x15 => [(4, .int x15), (0, .ref (ad 0)), (1, .int p0), (2, .int p1), (3, .int x13)]) hC dX11_mean_81 hl (k := 4) rfl (by decide) (fun _ => rfl) (z := 1) rfl h (fun x15 ls h hl => ?_)
                  refine lv_goto (tgt := 36) hC.x hC.b dX11_mean_84 (by decide) ?_
                  exact ih3 x13 x15 m14 H locs ls (ap3 es3 h) hH (lv_sub hl [1, 2, 3, 4, 0] rfl)
                clear ej8
                refine b_null (tgt := 81) hC dX11_mean_58 (by decide) h (fun ho h => ?_) (fun w9 hyw9 h => ?_)
                · subst ho
                  have hl : lv_has ls 6 [(5, .null), (0, .ref (ad 0)), (1, .int p0), (2, .int p1), (3, .int x4), (4, .int x5)] := hl
                  exact hj8 x4 m6 H locs ls h hH (lv_sub hl [1, 2, 3, 4, 5] rfl)
                · subst hyw9
                  have hl : lv_has ls 6 [(5, .ref (ad w9)), (0, .ref (ad 0)), (1, .int p0), (2, .int p1), (3, .int x4), (4, .int x5)] := hl
                  obtain ⟨hww9, h⟩ := chk h
                  refine lv_iload_n hC.x hC.b dX11_mean_61 rfl (lv_at hl 4 rfl) ?_
                  refine lv_aload_n hC.x hC.b dX11_mean_62 rfl (lv_at hl 1 rfl) ?_
                  refine r_getc (z := 10) hC hH fl_X11_12_11 (hL _ mX0) sX0 rfl dX11_mean_63 ?_
                  refine lv_aload hC.x hC.b dX11_mean_66 (lv_at hl 0 rfl) ?_
                  refine lv_iload_n hC.x hC.b dX11_mean_68 rfl (lv_at hl 2 rfl) ?_
                  refine lv_aload_n hC.x hC.b dX11_mean_69 rfl (lv_at hl 1 rfl) ?_
                  refine r_getc (z := 10) hC hH fl_X11_12_11 (hL _ mX0) sX0 rfl dX11_mean_70 ?_
                  refine r_geti hC hH fl_X11_103_2 (hL _ mX10) sX10 rfl dX11_mean_73 ?_
                  obtain ⟨x11, m10, hf11, h⟩ := bd2_e h
                  refine c_V1 (As := [.ref (ad w9), .int p0, .int (gI m6 10 4)]) (rest := [.int x4]) (o := 10) (q := (RX2, TX2, 17)) hC hX hE.2.1 hF hH (c_X2_noise (l := l) hk hL hE hww9 hf11) kw296 kw297 kw298 kw15 kw299 a_X2_noise.1 a_X2_noise.2 (hL _ mX10) sX10 rfl rfl hl.1 (rmk hR (by decide) (by decide)) (Nat.le_of_ble_eq_true rfl) dX11_mean_76 (fun H locs hH => ?_)
                  refine lv_iadd hC.x hC.b dX11_mean_79 ?_
                  refine n_i h (fun x12 h => ?_)
                  refine lv_istore_n (lv' := [(3, .int x12), (5, .ref (ad w9)), (0, .ref (ad 0)), (1, .int p0), (2, .int p1), (4, .int x5)]) hC.x hC.b dX11_mean_80 rfl hl (by decide) rfl (fun ls hl => ?_)
                  exact hj8 x12 m10 H locs ls h hH (lv_sub hl [2, 3, 4, 0, 5] rfl)
          exact hl3 _ (0 : Int32) (0 : Int32) mem H locs ls h hH (lv_sub hl [2, 3, 4, 1, 0] rfl)
        · refine lv_ldc2 (v := -9223372036854775808) hC.x hC.b hC.ow (hC.ts _ kw998) dX11_mean_27 ?_
          rw [hQ]
          exact e_l hC hr hH h dX11_mean_30
theorem fl_X11_43_11 : gFl RX11 43 11 7 := ⟨RX11, TX11, 13, "OnTiptoe", rfl, inW11, by decide, kw29, Or.inl rfl⟩
theorem a_X10_fewest : noMH yX10_fewest.cls ∧ arity yX10_fewest.desc 4 := by decide +kernel
theorem a_X10_learnBoard : noMH yX10_learnBoard.cls ∧ arity yX10_learnBoard.desc 5 := by decide +kernel
theorem a_X11_isFewer : noMH yX11_isFewer.cls ∧ arity yX11_isFewer.desc 2 := by decide +kernel
def s_X11_bestChange_34 (L : List Nat) (p0 : Nat) (p1 : Int32) (self3 : Int32 → Int32 → Int32 → gMem → Option (Int32 × gMem)) (x4 : Int32) (x5 : Int32) (x6 : Int32) (m7 : gMem) : Option (Int32 × gMem) := if (12 : Int32) ≤ x6 then (some (x5, m7)) else if okI x6 12 then lt1 (gI m7 11 (ix x6)) fun (x8 : Int32) => bd (f_X2_toyOn L m7 x6) fun (x9 : Int32) => jn ((fun (x21 : Int32) (x22 : Int32) (m23 : gMem) => lt1 (x6 + (1 : Int32)) fun (x24 : Int32) => (self3 x21 x22 x24 m23)) : Int32 → Int32 → gMem → Option (Int32 × gMem)) fun j10 => jn ((jn ((fun (x13 : Int32) => jn ((fun (x15 : Int32) => bd (f_X10_learnBoard L m7 p0 x6 x13 x15) fun (m16 : gMem) => bd2 (f_X10_fewest L m16 (gI m16 p0 2) (gI m16 10 4) (gI m16 10 5) (0 : Int32)) fun (x18 : Int32) (m17 : gMem) => bd (f_X10_learnBoard L m17 p0 x6 x8 x9) fun (m19 : gMem) => bd (f_X11_isFewer x18 x4) fun (x20 : Int32) => if x20 = 0 then ((j10 x4 x5 m19)) else (j10 x18 x6 m19)) : Int32 → Option (Int32 × gMem)) fun j14 => if p1 = 0 then ((j14 x9)) else (j14 (0 : Int32))) : Int32 → Option (Int32 × gMem)) fun j12 => if p1 = 0 then ((j12 (0 : Int32))) else (j12 x8)) : Option (Int32 × gMem)) fun j11 => if p1 = 0 then (if x8 = 0 then ((j10 x4 x5 m7)) else j11) else if x9 = 0 then ((j10 x4 x5 m7)) else j11 else none
def f_X11_bestChange (L : List Nat) (mem : gMem) (p0 : Nat) (p1 : Int32) : Option (Int32 × gMem) := bd2 (f_X10_fewest L mem (gI mem p0 2) (gI mem 10 4) (gI mem 10 5) (0 : Int32)) fun (x2 : Int32) (m1 : gMem) => lq4 (s_X11_bestChange_34 L p0 p1) 1000 x2 (-5 : Int32) (0 : Int32) m1
set_option maxRecDepth 100000 in
set_option maxHeartbeats 4000000 in
theorem c_X11_bestChange {l : Launch} {E : State → Prop} {D : va_G} {cy : Nat → ClassId} {ad : Nat → Nat} {L : List Nat} {mem : gMem} {p0 : Nat} {p1 : Int32} {rv : Int32} {memz : gMem} (hk : gOk ad L) (hL : ∀ o ∈ LX0, o ∈ L) (hE : gEok ad L E) (hp0 : wok L p0) (h : f_X11_bestChange L mem p0 p1 = some (rv, memz)) : gMet l yX11_bestChange cX11_bestChange 9 (some .int) 5 129 E D cy shX ad L [.ref (ad 0), .ref (ad p0), .int p1] mem memz (some (.int rv)) := by
  refine g_go (own := RX11) (by decide +kernel) rfl hE (Nat.le_of_ble_eq_true rfl) ?_
  intro p e s m args below meth c R Q hargs hR hQ hEs hC hr hX H locs ls hH hl
  have hF := gF_of hk
  have hl : lv_has ls 9 [(0, .ref (ad 0)), (1, .ref (ad p0)), (2, .int p1)] := hl
  refine lv_aload_n hC.x hC.b dX11_bestChange_0 rfl (lv_at hl 0 rfl) ?_
  refine r_getc (z := 32) hC hH fl_X11_43_11 (hL _ mX0) sX0 rfl dX11_bestChange_1 ?_
  refine lv_aload_n hC.x hC.b dX11_bestChange_4 rfl (lv_at hl 1 rfl) ?_
  refine r_geti hC hH (fw_X11_100 _ hp0.2.2.1) hp0.2.2.2.1 (sW0 hp0) rfl dX11_bestChange_5 ?_
  refine lv_aload_n hC.x hC.b dX11_bestChange_8 rfl (lv_at hl 0 rfl) ?_
  refine r_getc (z := 10) hC hH fl_X11_12_11 (hL _ mX0) sX0 rfl dX11_bestChange_9 ?_
  refine r_geti hC hH fl_X11_103_2 (hL _ mX10) sX10 rfl dX11_bestChange_12 ?_
  refine lv_aload_n hC.x hC.b dX11_bestChange_15 rfl (lv_at hl 0 rfl) ?_
  refine r_getc (z := 10) hC hH fl_X11_12_11 (hL _ mX0) sX0 rfl dX11_bestChange_16 ?_
  refine r_geti hC hH fl_X11_133_2 (hL _ mX10) sX10 rfl dX11_bestChange_19 ?_
  refine lv_iconst (v := 0) hC.x hC.b dX11_bestChange_22 rfl ?_
  obtain ⟨x2, m1, hf2, h⟩ := bd2_e h
  refine c_V1 (As := [.int (gI mem p0 2), .int (gI mem 10 4), .int (gI mem 10 5), .int (0 : Int32)]) (rest := []) (o := 32) (q := (RX10, TX10, 10)) hC hX hE.2.1 hF hH (c_X10_fewest (l := l) hk hL hE hf2) kw845 kw846 kw847 kw28 kw848 a_X10_fewest.1 a_X10_fewest.2 (hL _ mX32) sX32 rfl rfl hl.1 (rmk hR (by decide) (by decide)) (Nat.le_of_ble_eq_true rfl) dX11_bestChange_23 (fun H locs hH => ?_)
  refine lv_istore_n (lv' := [(3, .int x2), (0, .ref (ad 0)), (1, .ref (ad p0)), (2, .int p1)]) hC.x hC.b dX11_bestChange_26 rfl hl (by decide) rfl (fun ls hl => ?_)
  refine lv_bipush (v := -5) hC.x hC.b dX11_bestChange_27 rfl ?_
  refine lv_istore (lv' := [(4, .int (-5 : Int32)), (3, .int x2), (0, .ref (ad 0)), (1, .ref (ad p0)), (2, .int p1)]) hC.x hC.b dX11_bestChange_29 hl (by decide) rfl (fun ls hl => ?_)
  refine lv_iconst (v := 0) hC.x hC.b dX11_bestChange_31 rfl ?_
  refine lv_istore (lv' := [(5, .int (0 : Int32)), (4, .int (-5 : Int32)), (3, .int x2), (0, .ref (ad 0)), (1, .ref (ad p0)), (2, .int p1)]) hC.x hC.b dX11_bestChange_32 hl (by decide) rfl (fun ls hl => ?_)
  have hl3 : ∀ (n : Nat) (x4 : Int32) (x5 : Int32) (x6 : Int32) (m7 : gMem) (H : Heap) (locs : List Loc) (ls : Array Slot), lq4 (s_X11_bestChange_34 L p0 p1) n x4 x5 x6 m7 = some (rv, memz) → gH D cy shX ad L (gA ad L) s.heap m7 H locs → lv_has ls 9 [(0, .ref (ad 0)), (1, .ref (ad p0)), (2, .int p1), (3, .int x4), (4, .int x5), (5, .int x6)] → W p l e R s m args below meth c H locs 0 0 Q (F0 m 34 ls []) := by
    intro n
    induction n with
    | zero => intro x4 x5 x6 m7 H locs ls h _ _; exact lq4_0 h
    | succ n ih3 =>
      intro x4 x5 x6 m7 H locs ls h hH hl
      obtain ⟨self3, es3, h⟩ := lq4_s h
      refine lv_iload hC.x hC.b dX11_bestChange_34 (lv_at hl 5 rfl) ?_
      refine lv_bipush (v := 12) hC.x hC.b dX11_bestChange_36 rfl ?_
      refine b_ic_ge (tgt := 186) hC dX11_bestChange_38 (by decide) h (fun h => ?_) (fun h => ?_)
      · refine lv_iload hC.x hC.b dX11_bestChange_186 (lv_at hl 4 rfl) ?_
        rw [hQ]
        exact e_i hC hr hH h dX11_bestChange_188
      · refine lv_aload_n hC.x hC.b dX11_bestChange_41 rfl (lv_at hl 0 rfl) ?_
        refine r_getc (z := 10) hC hH fl_X11_12_11 (hL _ mX0) sX0 rfl dX11_bestChange_42 ?_
        refine r_getc (z := 11) hC hH fl_X11_68_2 (hL _ mX10) sX10 rfl dX11_bestChange_45 ?_
        refine lv_iload hC.x hC.b dX11_bestChange_48 (lv_at hl 5 rfl) ?_
        refine r_iald hC hH (hL _ mX11) sX11 h dX11_bestChange_50 (fun h => ?_)
        refine n_i h (fun x8 h => ?_)
        refine lv_istore (lv' := [(6, .int x8), (0, .ref (ad 0)), (1, .ref (ad p0)), (2, .int p1), (3, .int x4), (4, .int x5), (5, .int x6)]) hC.x hC.b dX11_bestChange_51 hl (by decide) rfl (fun ls hl => ?_)
        refine lv_aload_n hC.x hC.b dX11_bestChange_53 rfl (lv_at hl 1 rfl) ?_
        refine r_getc (z := 10) hC hH fl_X11_12_11 (hL _ mX0) sX0 rfl dX11_bestChange_54 ?_
        refine lv_iload hC.x hC.b dX11_bestChange_57 (lv_at hl 6 rfl) ?_
        obtain ⟨x9, hf9, h⟩ := bd_e h
        refine c_V1 (As := [.int x6]) (rest := []) (o := 10) (q := (RX2, TX2, 17)) hC hX hE.2.1 hF hH (c_X2_toyOn (l := l) hk hL hE hf9) kw176 kw177 kw178 kw15 kw179 a_X2_toyOn.1 a_X2_toyOn.2 (hL _ mX10) sX10 rfl rfl hl.1 (rmk hR (by decide) (by decide)) (Nat.le_of_ble_eq_true rfl) dX11_bestChange_59 (fun H locs hH => ?_)
        refine lv_istore (lv' := [(7, .int x9), (6, .int x8), (0, .ref (ad 0)), (1, .ref (ad p0)), (2, .int p1), (3, .int x4), (4, .int x5), (5, .int x6)]) hC.x hC.b dX11_bestChange_62 hl (by decide) rfl (fun ls hl => ?_)
        refine lv_iload_n hC.x hC.b dX11_bestChange_64 rfl (lv_at hl 4 rfl) ?_
        obtain ⟨j10, ej10, h⟩ := jn_e h
        have hj10 : ∀ (x21 : Int32) (x22 : Int32) (m23 : gMem) (H : Heap) (locs : List Loc) (ls : Array Slot), (j10 x21 x22 m23) = some (rv, memz) → gH D cy shX ad L (gA ad L) s.heap m23 H locs → lv_has ls 9 [(0, .ref (ad 0)), (1, .ref (ad p0)), (2, .int p1), (3, .int x21), (4, .int x22), (5, .int x6)] → W p l e R s m args below meth c H locs 0 0 Q (F0 m 180 ls []) := by
          intro x21 x22 m23 H locs ls h hH hl
          have h := ap3 ej10 h
          refine i_inc (lv' := fun x24 => [(5, .int x24), (0, .ref (ad 0)), (1, .ref (ad p0)), (2, .int p1), (3, .int x21), (4, .int x22)]) hC dX11_bestChange_180 hl (k := 5) rfl (by decide) (fun _ => rfl) (z := 1) rfl h (fun x24 ls h hl => ?_)
          refine lv_goto (tgt := 34) hC.x hC.b dX11_bestChange_183 (by decide) ?_
          exact ih3 x21 x22 x24 m23 H locs ls (ap4 es3 h) hH (lv_sub hl [1, 2, 3, 4, 5, 0] rfl)
        clear ej10
        obtain ⟨j11, ej11, h⟩ := jn_e h
        have hj11 : ∀  (H : Heap) (locs : List Loc) (ls : Array Slot), j11 = some (rv, memz) → gH D cy shX ad L (gA ad L) s.heap m7 H locs → lv_has ls 9 [(0, .ref (ad 0)), (1, .ref (ad p0)), (2, .int p1), (3, .int x4), (4, .int x5), (5, .int x6), (6, .int x8), (7, .int x9)] → W p l e R s m args below meth c H locs 0 0 Q (F0 m 84 ls []) := by
          intro H locs ls h hH hl
          have h := ap0 ej11 h
          refine lv_aload_n hC.x hC.b dX11_bestChange_84 rfl (lv_at hl 0 rfl) ?_
          refine r_getc (z := 32) hC hH fl_X11_43_11 (hL _ mX0) sX0 rfl dX11_bestChange_85 ?_
          refine lv_aload_n hC.x hC.b dX11_bestChange_88 rfl (lv_at hl 0 rfl) ?_
          refine r_getc (z := 10) hC hH fl_X11_12_11 (hL _ mX0) sX0 rfl dX11_bestChange_89 ?_
          refine lv_aload_n hC.x hC.b dX11_bestChange_92 rfl (lv_at hl 1 rfl) ?_
          refine lv_iload hC.x hC.b dX11_bestChange_93 (lv_at hl 5 rfl) ?_
          refine lv_iload_n hC.x hC.b dX11_bestChange_95 rfl (lv_at hl 2 rfl) ?_
          obtain ⟨j12, ej12, h⟩ := jn_e h
          have hj12 : ∀ (x13 : Int32) (H : Heap) (locs : List Loc) (ls : Array Slot), (j12 x13) = some (rv, memz) → gH D cy shX ad L (gA ad L) s.heap m7 H locs → lv_has ls 9 [(0, .ref (ad 0)), (1, .ref (ad p0)), (2, .int p1), (3, .int x4), (4, .int x5), (5, .int x6), (6, .int x8), (7, .int x9)] → W p l e R s m args below meth c H locs 0 0 Q (F0 m 105 ls [.int x13, .int x6, .ref (ad p0), .ref (ad 10), .ref (ad 32)]) := by
            intro x13 H locs ls h hH hl
            have h := ap1 ej12 h
            refine lv_iload_n hC.x hC.b dX11_bestChange_105 rfl (lv_at hl 2 rfl) ?_
            obtain ⟨j14, ej14, h⟩ := jn_e h
            have hj14 : ∀ (x15 : Int32) (H : Heap) (locs : List Loc) (ls : Array Slot), (j14 x15) = some (rv, memz) → gH D cy shX ad L (gA ad L) s.heap m7 H locs → lv_has ls 9 [(0, .ref (ad 0)), (1, .ref (ad p0)), (2, .int p1), (3, .int x4), (4, .int x5), (5, .int x6), (6, .int x8), (7, .int x9)] → W p l e R s m args below meth c H locs 0 0 Q (F0 m 115 ls [.int x15, .int x13, .int x6, .ref (ad p0), .ref (ad 10), .ref (ad 32)]) := by
              intro x15 H locs ls h hH hl
              have h := ap1 ej14 h
              obtain ⟨m16, hf16, h⟩ := bd_e h
              refine c_V0 (As := [.ref (ad 10), .ref (ad p0), .int x6, .int x13, .int x15]) (rest := []) (o := 32) (q := (RX10, TX10, 10)) hC hX hE.2.1 hF hH (c_X10_learnBoard (l := l) hk hL hE hp0 hf16) kw937 kw810 kw811 kw28 kw812 a_X10_learnBoard.1 a_X10_learnBoard.2 (hL _ mX32) sX32 rfl rfl hl.1 (rmk hR (by decide) (by decide)) (Nat.le_of_ble_eq_true rfl) dX11_bestChange_115 (fun H locs hH => ?_)
              refine lv_aload_n hC.x hC.b dX11_bestChange_118 rfl (lv_at hl 0 rfl) ?_
              refine r_getc (z := 32) hC hH fl_X11_43_11 (hL _ mX0) sX0 rfl dX11_bestChange_119 ?_
              refine lv_aload_n hC.x hC.b dX11_bestChange_122 rfl (lv_at hl 1 rfl) ?_
              refine r_geti hC hH (fw_X11_100 _ hp0.2.2.1) hp0.2.2.2.1 (sW0 hp0) rfl dX11_bestChange_123 ?_
              refine lv_aload_n hC.x hC.b dX11_bestChange_126 rfl (lv_at hl 0 rfl) ?_
              refine r_getc (z := 10) hC hH fl_X11_12_11 (hL _ mX0) sX0 rfl dX11_bestChange_127 ?_
              refine r_geti hC hH fl_X11_103_2 (hL _ mX10) sX10 rfl dX11_bestChange_130 ?_
              refine lv_aload_n hC.x hC.b dX11_bestChange_133 rfl (lv_at hl 0 rfl) ?_
              refine r_getc (z := 10) hC hH fl_X11_12_11 (hL _ mX0) sX0 rfl dX11_bestChange_134 ?_
              refine r_geti hC hH fl_X11_133_2 (hL _ mX10) sX10 rfl dX11_bestChange_137 ?_
              refine lv_iconst (v := 0) hC.x hC.b dX11_bestChange_140 rfl ?_
              obtain ⟨x18, m17, hf18, h⟩ := bd2_e h
              refine c_V1 (As := [.int (gI m16 p0 2), .int (gI m16 10 4), .int (gI m16 10 5), .int (0 : Int32)]) (rest := []) (o := 32) (q := (RX10, TX10, 10)) hC hX hE.2.1 hF hH (c_X10_fewest (l := l) hk hL hE hf18) kw845 kw846 kw847 kw28 kw848 a_X10_fewest.1 a_X10_fewest.2 (hL _ mX32) sX32 rfl rfl hl.1 (rmk hR (by decide) (by decide)) (Nat.le_of_ble_eq_true rfl) dX11_bestChange_141 (fun H locs hH => ?_)
              refine lv_istore (lv' := [(8, .int x18), (0, .ref (ad 0)), (1, .ref (ad p0)), (2, .int p1), (3, .int x4), (4, .int x5), (5, .int x6), (6, .int x8), (7, .int x9)]) hC.x hC.b dX11_bestChange_144 hl (by decide) rfl (fun ls hl => ?_)
              refine lv_aload_n hC.x hC.b dX11_bestChange_146 rfl (lv_at hl 1 rfl) ?_
              refine r_getc (z := 32) hC hH fl_X11_43_11 (hL _ mX0) sX0 rfl dX11_bestChange_147 ?_
              refine lv_aload_n hC.x hC.b dX11_bestChange_150 rfl (lv_at hl 1 rfl) ?_
              refine r_getc (z := 10) hC hH fl_X11_12_11 (hL _ mX0) sX0 rfl dX11_bestChange_151 ?_
              refine lv_aload_n hC.x hC.b dX11_bestChange_154 rfl (lv_at hl 2 rfl) ?_
              refine lv_iload hC.x hC.b dX11_bestChange_155 (lv_at hl 6 rfl) ?_
              refine lv_iload hC.x hC.b dX11_bestChange_157 (lv_at hl 7 rfl) ?_
              refine lv_iload hC.x hC.b dX11_bestChange_159 (lv_at hl 8 rfl) ?_
              obtain ⟨m19, hf19, h⟩ := bd_e h
              refine c_V0 (As := [.ref (ad 10), .ref (ad p0), .int x6, .int x8, .int x9]) (rest := []) (o := 32) (q := (RX10, TX10, 10)) hC hX hE.2.1 hF hH (c_X10_learnBoard (l := l) hk hL hE hp0 hf19) kw937 kw810 kw811 kw28 kw812 a_X10_learnBoard.1 a_X10_learnBoard.2 (hL _ mX32) sX32 rfl rfl hl.1 (rmk hR (by decide) (by decide)) (Nat.le_of_ble_eq_true rfl) dX11_bestChange_161 (fun H locs hH => ?_)
              refine lv_iload hC.x hC.b dX11_bestChange_164 (lv_at hl 0 rfl) ?_
              refine lv_iload_n hC.x hC.b dX11_bestChange_166 rfl (lv_at hl 4 rfl) ?_
              obtain ⟨x20, hf20, h⟩ := bd_e h
              refine c_S1 (As := [.int x18, .int x4]) (rest := []) hC hX hE.2.1 hF hH (c_X11_isFewer (l := l) hk hL hE hf20) kw922 kw923 kw2 kw924 a_X11_isFewer.1 a_X11_isFewer.2 rfl hl.1 (rmk hR (by decide) (by decide)) (Nat.le_of_ble_eq_true rfl) dX11_bestChange_167 (fun H locs hH => ?_)
              refine b_if_eq (tgt := 180) hC dX11_bestChange_170 (by decide) h (fun h => ?_) (fun h => ?_)
              · exact hj10 x4 x5 m19 H locs ls h hH (lv_sub hl [1, 2, 3, 4, 5, 6] rfl)
              · refine lv_iload hC.x hC.b dX11_bestChange_173 (lv_at hl 0 rfl) ?_
                refine lv_istore_n (lv' := [(3, .int x18), (8, .int x18), (0, .ref (ad 0)), (1, .ref (ad p0)), (2, .int p1), (4, .int x5), (5, .int x6), (6, .int x8), (7, .int x9)]) hC.x hC.b dX11_bestChange_175 rfl hl (by decide) rfl (fun ls hl => ?_)
                refine lv_iload hC.x hC.b dX11_bestChange_176 (lv_at hl 6 rfl) ?_
                refine lv_istore (lv' := [(4, .int x6), (3, .int x18), (8, .int x18), (0, .ref (ad 0)), (1, .ref (ad p0)), (2, .int p1), (5, .int x6), (6, .int x8), (7, .int x9)]) hC.x hC.b dX11_bestChange_178 hl (by decide) rfl (fun ls hl => ?_)
                exact hj10 x18 x6 m19 H locs ls h hH (lv_sub hl [3, 4, 5, 1, 0, 6] rfl)
            clear ej14
            refine b_if_eq (tgt := 113) hC dX11_bestChange_106 (by decide) h (fun h => ?_) (fun h => ?_)
            · refine lv_iload hC.x hC.b dX11_bestChange_113 (lv_at hl 7 rfl) ?_
              exact hj14 x9 H locs ls h hH (lv_sub hl [0, 1, 2, 3, 4, 5, 6, 7] rfl)
            · refine lv_iconst (v := 0) hC.x hC.b dX11_bestChange_109 rfl ?_
              refine lv_goto (tgt := 115) hC.x hC.b dX11_bestChange_110 (by decide) ?_
              exact hj14 (0 : Int32) H locs ls h hH (lv_sub hl [0, 1, 2, 3, 4, 5, 6, 7] rfl)
          clear ej12
          refine b_if_eq (tgt := 104) hC dX11_bestChange_96 (by decide) h (fun h => ?_) (fun h => ?_)
          · refine lv_iconst (v := 0) hC.x hC.b dX11_bestChange_104 rfl ?_
            exact hj12 (0 : Int32) H locs ls h hH (lv_sub hl [0, 1, 2, 3, 4, 5, 6, 7] rfl)
          · refine lv_iload hC.x hC.b dX11_bestChange_99 (lv_at hl 6 rfl) ?_
            refine lv_goto (tgt := 105) hC.x hC.b dX11_bestChange_101 (by decide) ?_
            exact hj12 x8 H locs ls h hH (lv_sub hl [0, 1, 2, 3, 4, 5, 6, 7] rfl)
        clear ej11
        refine b_if_eq (tgt := 76) hC dX11_bestChange_65 (by decide) h (fun h => ?_) (fun h => ?_)
        · refine lv_iload hC.x hC.b dX11_bestChange_76 (lv_at hl 1 rfl) ?_
          refine b_if_ne (tgt := 84) hC dX11_bestChange_78 (by decide) h (fun h => ?_) (fun h => ?_)
          · exact hj11  H locs ls h hH (lv_sub hl [2, 3, 4, 5, 6, 7, 1, 0] rfl)
          · refine lv_goto (tgt := 180) hC.x hC.b dX11_bestChange_81 (by decide) ?_
            exact hj10 x4 x5 m7 H locs ls h hH (lv_sub hl [2, 3, 4, 5, 6, 7] rfl)
        · refine lv_iload hC.x hC.b dX11_bestChange_68 (lv_at hl 0 rfl) ?_
          refine b_if_ne (tgt := 84) hC dX11_bestChange_70 (by decide) h (fun h => ?_) (fun h => ?_)
          · exact hj11  H locs ls h hH (lv_sub hl [2, 3, 4, 5, 6, 7, 1, 0] rfl)
          · refine lv_goto (tgt := 180) hC.x hC.b dX11_bestChange_73 (by decide) ?_
            exact hj10 x4 x5 m7 H locs ls h hH (lv_sub hl [2, 3, 4, 5, 6, 7] rfl)
  exact hl3 _ x2 (-5 : Int32) (0 : Int32) m1 H locs ls h hH (lv_sub hl [3, 4, 5, 2, 1, 0] rfl)

theorem fl_X11_18_11 : gFl RX11 18 11 1 := ⟨RX11, TX11, 13, "OnTiptoe", rfl, inW11, by decide, kw17, Or.inl rfl⟩
theorem a_X2_takeFrom : noMH yX2_takeFrom.cls ∧ arity yX2_takeFrom.desc 1 := by decide +kernel
theorem pl_X11_242_11 : gPl RX11 242 11 2 "Z" := ⟨RX11, TX11, 13, tyX11, "OnTiptoe", rfl, inW11, tyX11_ok, nmX11, by decide, kw1061, Or.inl rfl, rfl, rfl⟩
def d_keep (L : List Nat) (mem : gMem) (w : Nat) : Option gMem := if wkd w = 0 then f_X9_keep L mem w  else if wkd w = 1 then f_X9_keep L mem w  else if wkd w = 2 then f_X9_keep L mem w  else if wkd w = 3 then f_X9_keep L mem w  else if wkd w = 4 then f_X9_keep L mem w  else if wkd w = 5 then f_X9_keep L mem w  else f_X8_keep L mem w 
theorem a_X8_keep : noMH yX8_keep.cls ∧ arity yX8_keep.desc 0 := by decide +kernel
theorem v_X11_245_keep {p : Program} {l : Launch} {e : Env} {R : Room} {s : State} {m : MethodId} {args : Array Value} {below : List Frame} {meth : Method} {c : Code} {H : Heap} {locs : List Loc} {Q : State → Prop} {cc : ByteArray} {nL : Nat} {pc : Nat} {ls : Array Slot} {rest : List Value} {D : va_G} {cy : Nat → ClassId} {ad : Nat → Nat} {L : List Nat} {mem mem' : gMem} {E : State → Prop} {fr0 lo0 w : Nat}  (hC : gC p s m args meth c cc nL RX11 D cy) (hX : gX (gA ad L) s E) (hk : gOk ad L) (hL : ∀ o ∈ LX0, o ∈ L) (hE : gEok ad L E) (hF : gF ad L (gA ad L)) (hH : gH D cy shX ad L (gA ad L) s.heap mem H locs) (hw : wok L w) (hf : d_keep L mem w  = some mem') (hls : ls.size = nL) (hR : R = gRm fr0 lo0) (h1 : 2 ≤ fr0) (h2 : 80 ≤ lo0) (hW : (rest.map fun v => v.category).sum ≤ 8) (hdg : decode cc pc = .ok (.invokevirtual 245, 3))
    (kk : ∀ (H1 : Heap) (locs1 : List Loc), gH D cy shX ad L (gA ad L) s.heap mem' H1 locs1 → W p l e R s m args below meth c H1 locs1 0 0 Q (F0 m (pc + 3) ls rest)) : W p l e R s m args below meth c H locs 0 0 Q (F0 m pc ls (.ref (ad w) :: rest)) := by
  have hk7 := hw.2.2.1
  unfold d_keep at hf
  by_cases hc : wkd w = 0
  · have hf := ifp hc hf
    exact c_U0 (As := []) (rest := rest) (o := w) (x := ⟨"OnTiptoe$Walker", "keep", "()V"⟩) (owner := "OnTiptoe$Walker") (b0 := cX9_keep) (m0 := 1) (r0 := none) (q := (RX9, TX9, 6)) hC hX hE.2.1 hF hH (c_X9_keep (l := l) (mem := mem) hk hL hE hw hf) kw1075 kw1076 kw1091 kw221 kw1079 kw1078 kw1078 kw1079 (by decide +kernel) a_X9_keep.2 hw.2.2.2.1 (sWk hw hc) rfl rfl hls (rmk hR (by omega) (by omega)) hW hdg kk
  have hf := ifn hc hf
  have hz0 := hc
  clear hc
  by_cases hc : wkd w = 1
  · have hf := ifp hc hf
    exact c_U0 (As := []) (rest := rest) (o := w) (x := ⟨"OnTiptoe$Walker", "keep", "()V"⟩) (owner := "OnTiptoe$Walker") (b0 := cX9_keep) (m0 := 1) (r0 := none) (q := (RX1, TX1, 6)) hC hX hE.2.1 hF hH (c_X9_keep (l := l) (mem := mem) hk hL hE hw hf) kw1075 kw1076 kw1081 kw221 kw1079 kw1078 kw1078 kw1079 (by decide +kernel) a_X9_keep.2 hw.2.2.2.1 (sWk hw hc) rfl rfl hls (rmk hR (by omega) (by omega)) hW hdg kk
  have hf := ifn hc hf
  have hz1 := hc
  clear hc
  by_cases hc : wkd w = 2
  · have hf := ifp hc hf
    exact c_U0 (As := []) (rest := rest) (o := w) (x := ⟨"OnTiptoe$Walker", "keep", "()V"⟩) (owner := "OnTiptoe$Walker") (b0 := cX9_keep) (m0 := 1) (r0 := none) (q := (RX6, TX6, 6)) hC hX hE.2.1 hF hH (c_X9_keep (l := l) (mem := mem) hk hL hE hw hf) kw1075 kw1076 kw1083 kw221 kw1079 kw1078 kw1078 kw1079 (by decide +kernel) a_X9_keep.2 hw.2.2.2.1 (sWk hw hc) rfl rfl hls (rmk hR (by omega) (by omega)) hW hdg kk
  have hf := ifn hc hf
  have hz2 := hc
  clear hc
  by_cases hc : wkd w = 3
  · have hf := ifp hc hf
    exact c_U0 (As := []) (rest := rest) (o := w) (x := ⟨"OnTiptoe$Walker", "keep", "()V"⟩) (owner := "OnTiptoe$Walker") (b0 := cX9_keep) (m0 := 1) (r0 := none) (q := (RX5, TX5, 6)) hC hX hE.2.1 hF hH (c_X9_keep (l := l) (mem := mem) hk hL hE hw hf) kw1075 kw1076 kw1082 kw221 kw1079 kw1078 kw1078 kw1079 (by decide +kernel) a_X9_keep.2 hw.2.2.2.1 (sWk hw hc) rfl rfl hls (rmk hR (by omega) (by omega)) hW hdg kk
  have hf := ifn hc hf
  have hz3 := hc
  clear hc
  by_cases hc : wkd w = 4
  · have hf := ifp hc hf
    exact c_U0 (As := []) (rest := rest) (o := w) (x := ⟨"OnTiptoe$Walker", "keep", "()V"⟩) (owner := "OnTiptoe$Walker") (b0 := cX9_keep) (m0 := 1) (r0 := none) (q := (RX7, TX7, 6)) hC hX hE.2.1 hF hH (c_X9_keep (l := l) (mem := mem) hk hL hE hw hf) kw1075 kw1076 kw1084 kw221 kw1079 kw1078 kw1078 kw1079 (by decide +kernel) a_X9_keep.2 hw.2.2.2.1 (sWk hw hc) rfl rfl hls (rmk hR (by omega) (by omega)) hW hdg kk
  have hf := ifn hc hf
  have hz4 := hc
  clear hc
  by_cases hc : wkd w = 5
  · have hf := ifp hc hf
    exact c_U0 (As := []) (rest := rest) (o := w) (x := ⟨"OnTiptoe$Walker", "keep", "()V"⟩) (owner := "OnTiptoe$Walker") (b0 := cX9_keep) (m0 := 1) (r0 := none) (q := (RX0, TX0, 6)) hC hX hE.2.1 hF hH (c_X9_keep (l := l) (mem := mem) hk hL hE hw hf) kw1075 kw1076 kw1077 kw221 kw1079 kw1078 kw1078 kw1079 (by decide +kernel) a_X9_keep.2 hw.2.2.2.1 (sWk hw hc) rfl rfl hls (rmk hR (by omega) (by omega)) hW hdg kk
  have hf := ifn hc hf
  have hz5 := hc
  clear hc
  have hc : wkd w = 6 := by omega
  exact c_U0 (As := []) (rest := rest) (o := w) (x := ⟨"OnTiptoe$Walker", "keep", "()V"⟩) (owner := "OnTiptoe$Walker") (b0 := cX9_keep) (m0 := 1) (r0 := none) (q := (RX8, TX8, 8)) hC hX hE.2.1 hF hH (c_X8_keep (l := l) (mem := mem) hk hL hE hw (by omega) hf) kw1075 kw1076 kw1086 kw219 kw1088 kw1087 kw1078 kw1079 (by decide +kernel) a_X8_keep.2 hw.2.2.2.1 (sWk hw hc) rfl rfl hls (rmk hR (by omega) (by omega)) hW hdg kk
def s_X11_image_18 (L : List Nat) (self3 : Int32 → gMem → Option (Int32 × gMem)) (x4 : Int32) (m5 : gMem) : Option (Int32 × gMem) := if (gI m5 20 3) ≤ x4 then (some ((gI m5 20 3), m5)) else bd (f_X11_find L m5 x4) fun (o6 : Option Nat) => jn ((fun (m10 : gMem) => lt1 (x4 + (1 : Int32)) fun (x11 : Int32) => (self3 x11 m10)) : gMem → Option (Int32 × gMem)) fun j7 => oc o6 ((j7 m5)) fun w8 => if wok L w8 then bd (d_keep L m5 w8) fun (m9 : gMem) => (j7 m9) else none
def f_X11_image (L : List Nat) (mem : gMem) : Option (Int32 × gMem) := bd (f_X2_takeFromI L mem) fun (m1 : gMem) => if isB (1 : Int32) then lt1 (gsI m1 0 2 (1 : Int32)) fun (m2 : gMem) => lq2 (s_X11_image_18 L) 1000 (0 : Int32) m2 else none
set_option maxRecDepth 100000 in
set_option maxHeartbeats 4000000 in
theorem c_X11_image {l : Launch} {E : State → Prop} {D : va_G} {cy : Nat → ClassId} {ad : Nat → Nat} {L : List Nat} {mem : gMem} {rv : Int32} {memz : gMem} (hk : gOk ad L) (hL : ∀ o ∈ LX0, o ∈ L) (hE : gEok ad L E)  (h : f_X11_image L mem = some (rv, memz)) : gMet l yX11_image cX11_image 3 (some .int) 2 81 E D cy shX ad L [.ref (ad 0)] mem memz (some (.int rv)) := by
  refine g_go (own := RX11) (by decide +kernel) rfl hE (Nat.le_of_ble_eq_true rfl) ?_
  intro p e s m args below meth c R Q hargs hR hQ hEs hC hr hX H locs ls hH hl
  have hF := gF_of hk
  have hl : lv_has ls 3 [(0, .ref (ad 0))] := hl
  refine lv_aload_n hC.x hC.b dX11_image_0 rfl (lv_at hl 0 rfl) ?_
  refine r_getc (z := 20) hC hH fl_X11_18_11 (hL _ mX0) sX0 rfl dX11_image_1 ?_
  refine lv_aload_n hC.x hC.b dX11_image_4 rfl (lv_at hl 0 rfl) ?_
  refine r_getc (z := 10) hC hH fl_X11_12_11 (hL _ mX0) sX0 rfl dX11_image_5 ?_
  obtain ⟨m1, hf1, h⟩ := bd_e h
  refine c_V0 (As := [.ref (ad 10)]) (rest := []) (o := 20) (q := (RX2, TX2, 17)) hC hX hE.2.1 hF hH (c_X2_takeFromI (l := l) hk hL hE hf1) kw1062 kw1063 kw1064 kw15 kw1065 a_X2_takeFrom.1 a_X2_takeFrom.2 (hL _ mX20) sX20 rfl rfl hl.1 (rmk hR (by decide) (by decide)) (Nat.le_of_ble_eq_true rfl) dX11_image_8 (fun H locs hH => ?_)
  refine lv_aload_n hC.x hC.b dX11_image_11 rfl (lv_at hl 0 rfl) ?_
  refine lv_iconst (v := 1) hC.x hC.b dX11_image_12 rfl ?_
  refine r_putz hC hF hH pl_X11_242_11 (hL _ mX0) sX0 rfl h dX11_image_13 (fun m2 H locs h hH => ?_)
  refine lv_iconst (v := 0) hC.x hC.b dX11_image_16 rfl ?_
  refine lv_istore_n (lv' := [(1, .int (0 : Int32)), (0, .ref (ad 0))]) hC.x hC.b dX11_image_17 rfl hl (by decide) rfl (fun ls hl => ?_)
  have hl3 : ∀ (n : Nat) (x4 : Int32) (m5 : gMem) (H : Heap) (locs : List Loc) (ls : Array Slot), lq2 (s_X11_image_18 L) n x4 m5 = some (rv, memz) → gH D cy shX ad L (gA ad L) s.heap m5 H locs → lv_has ls 3 [(0, .ref (ad 0)), (1, .int x4)] → W p l e R s m args below meth c H locs 0 0 Q (F0 m 18 ls []) := by
    intro n
    induction n with
    | zero => intro x4 m5 H locs ls h _ _; exact lq2_0 h
    | succ n ih3 =>
      intro x4 m5 H locs ls h hH hl
      obtain ⟨self3, es3, h⟩ := lq2_s h
      refine lv_iload_n hC.x hC.b dX11_image_18 rfl (lv_at hl 1 rfl) ?_
      refine lv_aload_n hC.x hC.b dX11_image_19 rfl (lv_at hl 0 rfl) ?_
      refine r_getc (z := 20) hC hH fl_X11_18_11 (hL _ mX0) sX0 rfl dX11_image_20 ?_
      refine r_geti hC hH fl_X11_82_2 (hL _ mX20) sX20 rfl dX11_image_23 ?_
      refine b_ic_ge (tgt := 49) hC dX11_image_26 (by decide) h (fun h => ?_) (fun h => ?_)
      · refine lv_aload_n hC.x hC.b dX11_image_49 rfl (lv_at hl 0 rfl) ?_
        refine r_getc (z := 20) hC hH fl_X11_18_11 (hL _ mX0) sX0 rfl dX11_image_50 ?_
        refine r_geti hC hH fl_X11_82_2 (hL _ mX20) sX20 rfl dX11_image_53 ?_
        rw [hQ]
        exact e_i hC hr hH h dX11_image_56
      · refine lv_aload_n hC.x hC.b dX11_image_29 rfl (lv_at hl 0 rfl) ?_
        refine lv_iload_n hC.x hC.b dX11_image_30 rfl (lv_at hl 1 rfl) ?_
        obtain ⟨o6, hf6, h⟩ := bd_e h
        refine c_V1 (As := [.int x4]) (rest := []) (o := 0) (q := (RX11, TX11, 13)) hC hX hE.2.1 hF hH (c_X11_find (l := l) hk hL hE hf6) kw267 kw268 kw269 kw2 kw270 a_X11_find.1 a_X11_find.2 (hL _ mX0) sX0 rfl rfl hl.1 (rmk hR (by decide) (by decide)) (Nat.le_of_ble_eq_true rfl) dX11_image_31 (fun H locs hH => ?_)
        refine o_astn (lv' := [(2, va_rf (Option.map ad o6)), (0, .ref (ad 0)), (1, .int x4)]) hC dX11_image_34 rfl hl (by decide) rfl (fun ls hl => ?_)
        refine o_aldn hC dX11_image_35 rfl (lv_at hl 0 rfl) ?_
        obtain ⟨j7, ej7, h⟩ := jn_e h
        have hj7 : ∀ (m10 : gMem) (H : Heap) (locs : List Loc) (ls : Array Slot), (j7 m10) = some (rv, memz) → gH D cy shX ad L (gA ad L) s.heap m10 H locs → lv_has ls 3 [(0, .ref (ad 0)), (1, .int x4)] → W p l e R s m args below meth c H locs 0 0 Q (F0 m 43 ls []) := by
          intro m10 H locs ls h hH hl
          have h := ap1 ej7 h
          refine i_inc (lv' := fun x11 => [(1, .int x11), (0, .ref (ad 0))]) hC dX11_image_43 hl (k := 1) rfl (by decide) (fun _ => rfl) (z := 1) rfl h (fun x11 ls h hl => ?_)
          refine lv_goto (tgt := 18) hC.x hC.b dX11_image_46 (by decide) ?_
          exact ih3 x11 m10 H locs ls (ap2 es3 h) hH (lv_sub hl [1, 0] rfl)
        clear ej7
        refine b_null (tgt := 43) hC dX11_image_36 (by decide) h (fun ho h => ?_) (fun w8 hyw8 h => ?_)
        · subst ho
          have hl : lv_has ls 3 [(2, .null), (0, .ref (ad 0)), (1, .int x4)] := hl
          exact hj7 m5 H locs ls h hH (lv_sub hl [1, 2] rfl)
        · subst hyw8
          have hl : lv_has ls 3 [(2, .ref (ad w8)), (0, .ref (ad 0)), (1, .int x4)] := hl
          obtain ⟨hww8, h⟩ := chk h
          refine lv_aload_n hC.x hC.b dX11_image_39 rfl (lv_at hl 0 rfl) ?_
          obtain ⟨m9, hf9, h⟩ := bd_e h
          refine v_X11_245_keep hC hX hk hL hE hF hH hww8 hf9 hl.1 hR (by decide) (by decide) (Nat.le_of_ble_eq_true rfl) dX11_image_40 (fun H locs hH => ?_)
          exact hj7 m9 H locs ls h hH (lv_sub hl [1, 2] rfl)
  exact hl3 _ (0 : Int32) m2 H locs ls h hH (lv_sub hl [1, 0] rfl)
theorem fl_X11_242_11 : gFl RX11 242 11 2 := ⟨RX11, TX11, 13, "OnTiptoe", rfl, inW11, by decide, kw1061, Or.inl rfl⟩
def d_goBack (L : List Nat) (mem : gMem) (w : Nat) : Option gMem := if wkd w = 0 then f_X9_goBack L mem w  else if wkd w = 1 then f_X9_goBack L mem w  else if wkd w = 2 then f_X9_goBack L mem w  else if wkd w = 3 then f_X9_goBack L mem w  else if wkd w = 4 then f_X9_goBack L mem w  else if wkd w = 5 then f_X9_goBack L mem w  else f_X8_goBack L mem w 
theorem a_X8_goBack : noMH yX8_goBack.cls ∧ arity yX8_goBack.desc 0 := by decide +kernel
theorem v_X11_248_goBack {p : Program} {l : Launch} {e : Env} {R : Room} {s : State} {m : MethodId} {args : Array Value} {below : List Frame} {meth : Method} {c : Code} {H : Heap} {locs : List Loc} {Q : State → Prop} {cc : ByteArray} {nL : Nat} {pc : Nat} {ls : Array Slot} {rest : List Value} {D : va_G} {cy : Nat → ClassId} {ad : Nat → Nat} {L : List Nat} {mem mem' : gMem} {E : State → Prop} {fr0 lo0 w : Nat}  (hC : gC p s m args meth c cc nL RX11 D cy) (hX : gX (gA ad L) s E) (hk : gOk ad L) (hL : ∀ o ∈ LX0, o ∈ L) (hE : gEok ad L E) (hF : gF ad L (gA ad L)) (hH : gH D cy shX ad L (gA ad L) s.heap mem H locs) (hw : wok L w) (hf : d_goBack L mem w  = some mem') (hls : ls.size = nL) (hR : R = gRm fr0 lo0) (h1 : 2 ≤ fr0) (h2 : 80 ≤ lo0) (hW : (rest.map fun v => v.category).sum ≤ 8) (hdg : decode cc pc = .ok (.invokevirtual 248, 3))
    (kk : ∀ (H1 : Heap) (locs1 : List Loc), gH D cy shX ad L (gA ad L) s.heap mem' H1 locs1 → W p l e R s m args below meth c H1 locs1 0 0 Q (F0 m (pc + 3) ls rest)) : W p l e R s m args below meth c H locs 0 0 Q (F0 m pc ls (.ref (ad w) :: rest)) := by
  have hk7 := hw.2.2.1
  unfold d_goBack at hf
  by_cases hc : wkd w = 0
  · have hf := ifp hc hf
    exact c_U0 (As := []) (rest := rest) (o := w) (x := ⟨"OnTiptoe$Walker", "goBack", "()V"⟩) (owner := "OnTiptoe$Walker") (b0 := cX9_goBack) (m0 := 1) (r0 := none) (q := (RX9, TX9, 6)) hC hX hE.2.1 hF hH (c_X9_goBack (l := l) (mem := mem) hk hL hE hw hf) kw1100 kw1101 kw1114 kw221 kw1104 kw1103 kw1103 kw1104 (by decide +kernel) a_X9_goBack.2 hw.2.2.2.1 (sWk hw hc) rfl rfl hls (rmk hR (by omega) (by omega)) hW hdg kk
  have hf := ifn hc hf
  have hz0 := hc
  clear hc
  by_cases hc : wkd w = 1
  · have hf := ifp hc hf
    exact c_U0 (As := []) (rest := rest) (o := w) (x := ⟨"OnTiptoe$Walker", "goBack", "()V"⟩) (owner := "OnTiptoe$Walker") (b0 := cX9_goBack) (m0 := 1) (r0 := none) (q := (RX1, TX1, 6)) hC hX hE.2.1 hF hH (c_X9_goBack (l := l) (mem := mem) hk hL hE hw hf) kw1100 kw1101 kw1105 kw221 kw1104 kw1103 kw1103 kw1104 (by decide +kernel) a_X9_goBack.2 hw.2.2.2.1 (sWk hw hc) rfl rfl hls (rmk hR (by omega) (by omega)) hW hdg kk
  have hf := ifn hc hf
  have hz1 := hc
  clear hc
  by_cases hc : wkd w = 2
  · have hf := ifp hc hf
    exact c_U0 (As := []) (rest := rest) (o := w) (x := ⟨"OnTiptoe$Walker", "goBack", "()V"⟩) (owner := "OnTiptoe$Walker") (b0 := cX9_goBack) (m0 := 1) (r0 := none) (q := (RX6, TX6, 6)) hC hX hE.2.1 hF hH (c_X9_goBack (l := l) (mem := mem) hk hL hE hw hf) kw1100 kw1101 kw1107 kw221 kw1104 kw1103 kw1103 kw1104 (by decide +kernel) a_X9_goBack.2 hw.2.2.2.1 (sWk hw hc) rfl rfl hls (rmk hR (by omega) (by omega)) hW hdg kk
  have hf := ifn hc hf
  have hz2 := hc
  clear hc
  by_cases hc : wkd w = 3
  · have hf := ifp hc hf
    exact c_U0 (As := []) (rest := rest) (o := w) (x := ⟨"OnTiptoe$Walker", "goBack", "()V"⟩) (owner := "OnTiptoe$Walker") (b0 := cX9_goBack) (m0 := 1) (r0 := none) (q := (RX5, TX5, 6)) hC hX hE.2.1 hF hH (c_X9_goBack (l := l) (mem := mem) hk hL hE hw hf) kw1100 kw1101 kw1106 kw221 kw1104 kw1103 kw1103 kw1104 (by decide +kernel) a_X9_goBack.2 hw.2.2.2.1 (sWk hw hc) rfl rfl hls (rmk hR (by omega) (by omega)) hW hdg kk
  have hf := ifn hc hf
  have hz3 := hc
  clear hc
  by_cases hc : wkd w = 4
  · have hf := ifp hc hf
    exact c_U0 (As := []) (rest := rest) (o := w) (x := ⟨"OnTiptoe$Walker", "goBack", "()V"⟩) (owner := "OnTiptoe$Walker") (b0 := cX9_goBack) (m0 := 1) (r0 := none) (q := (RX7, TX7, 6)) hC hX hE.2.1 hF hH (c_X9_goBack (l := l) (mem := mem) hk hL hE hw hf) kw1100 kw1101 kw1108 kw221 kw1104 kw1103 kw1103 kw1104 (by decide +kernel) a_X9_goBack.2 hw.2.2.2.1 (sWk hw hc) rfl rfl hls (rmk hR (by omega) (by omega)) hW hdg kk
  have hf := ifn hc hf
  have hz4 := hc
  clear hc
  by_cases hc : wkd w = 5
  · have hf := ifp hc hf
    exact c_U0 (As := []) (rest := rest) (o := w) (x := ⟨"OnTiptoe$Walker", "goBack", "()V"⟩) (owner := "OnTiptoe$Walker") (b0 := cX9_goBack) (m0 := 1) (r0 := none) (q := (RX0, TX0, 6)) hC hX hE.2.1 hF hH (c_X9_goBack (l := l) (mem := mem) hk hL hE hw hf) kw1100 kw1101 kw1102 kw221 kw1104 kw1103 kw1103 kw1104 (by decide +kernel) a_X9_goBack.2 hw.2.2.2.1 (sWk hw hc) rfl rfl hls (rmk hR (by omega) (by omega)) hW hdg kk
  have hf := ifn hc hf
  have hz5 := hc
  clear hc
  have hc : wkd w = 6 := by omega
  exact c_U0 (As := []) (rest := rest) (o := w) (x := ⟨"OnTiptoe$Walker", "goBack", "()V"⟩) (owner := "OnTiptoe$Walker") (b0 := cX9_goBack) (m0 := 1) (r0 := none) (q := (RX8, TX8, 8)) hC hX hE.2.1 hF hH (c_X8_goBack (l := l) (mem := mem) hk hL hE hw (by omega) hf) kw1100 kw1101 kw1110 kw219 kw1112 kw1111 kw1103 kw1104 (by decide +kernel) a_X8_goBack.2 hw.2.2.2.1 (sWk hw hc) rfl rfl hls (rmk hR (by omega) (by omega)) hW hdg kk
def s_X11_undo_23 (L : List Nat) (self2 : Int32 → gMem → Option (Int32 × gMem)) (x3 : Int32) (m4 : gMem) : Option (Int32 × gMem) := if (gI m4 10 3) ≤ x3 then (some ((gI m4 10 3), m4)) else bd (f_X11_find L m4 x3) fun (o5 : Option Nat) => jn ((fun (m9 : gMem) => lt1 (x3 + (1 : Int32)) fun (x10 : Int32) => (self2 x10 m9)) : gMem → Option (Int32 × gMem)) fun j6 => oc o5 ((j6 m4)) fun w7 => if wok L w7 then bd (d_goBack L m4 w7) fun (m8 : gMem) => (j6 m8) else none
def f_X11_undo (L : List Nat) (mem : gMem) : Option (Int32 × gMem) := if (gI mem 0 2) = 0 then (some ((-3 : Int32), mem)) else bd (f_X2_takeFromN L mem) fun (m1 : gMem) => lq2 (s_X11_undo_23 L) 1000 (0 : Int32) m1
set_option maxRecDepth 100000 in
set_option maxHeartbeats 4000000 in
theorem c_X11_undo {l : Launch} {E : State → Prop} {D : va_G} {cy : Nat → ClassId} {ad : Nat → Nat} {L : List Nat} {mem : gMem} {rv : Int32} {memz : gMem} (hk : gOk ad L) (hL : ∀ o ∈ LX0, o ∈ L) (hE : gEok ad L E)  (h : f_X11_undo L mem = some (rv, memz)) : gMet l yX11_undo cX11_undo 3 (some .int) 2 81 E D cy shX ad L [.ref (ad 0)] mem memz (some (.int rv)) := by
  refine g_go (own := RX11) (by decide +kernel) rfl hE (Nat.le_of_ble_eq_true rfl) ?_
  intro p e s m args below meth c R Q hargs hR hQ hEs hC hr hX H locs ls hH hl
  have hF := gF_of hk
  have hl : lv_has ls 3 [(0, .ref (ad 0))] := hl
  refine lv_aload_n hC.x hC.b dX11_undo_0 rfl (lv_at hl 0 rfl) ?_
  refine r_geti hC hH fl_X11_242_11 (hL _ mX0) sX0 rfl dX11_undo_1 ?_
  refine b_if_ne (tgt := 10) hC dX11_undo_4 (by decide) h (fun h => ?_) (fun h => ?_)
  · refine lv_aload_n hC.x hC.b dX11_undo_10 rfl (lv_at hl 0 rfl) ?_
    refine r_getc (z := 10) hC hH fl_X11_12_11 (hL _ mX0) sX0 rfl dX11_undo_11 ?_
    refine lv_aload_n hC.x hC.b dX11_undo_14 rfl (lv_at hl 0 rfl) ?_
    refine r_getc (z := 20) hC hH fl_X11_18_11 (hL _ mX0) sX0 rfl dX11_undo_15 ?_
    obtain ⟨m1, hf1, h⟩ := bd_e h
    refine c_V0 (As := [.ref (ad 20)]) (rest := []) (o := 10) (q := (RX2, TX2, 17)) hC hX hE.2.1 hF hH (c_X2_takeFromN (l := l) hk hL hE hf1) kw1062 kw1063 kw1064 kw15 kw1065 a_X2_takeFrom.1 a_X2_takeFrom.2 (hL _ mX10) sX10 rfl rfl hl.1 (rmk hR (by decide) (by decide)) (Nat.le_of_ble_eq_true rfl) dX11_undo_18 (fun H locs hH => ?_)
    refine lv_iconst (v := 0) hC.x hC.b dX11_undo_21 rfl ?_
    refine lv_istore_n (lv' := [(1, .int (0 : Int32)), (0, .ref (ad 0))]) hC.x hC.b dX11_undo_22 rfl hl (by decide) rfl (fun ls hl => ?_)
    have hl2 : ∀ (n : Nat) (x3 : Int32) (m4 : gMem) (H : Heap) (locs : List Loc) (ls : Array Slot), lq2 (s_X11_undo_23 L) n x3 m4 = some (rv, memz) → gH D cy shX ad L (gA ad L) s.heap m4 H locs → lv_has ls 3 [(0, .ref (ad 0)), (1, .int x3)] → W p l e R s m args below meth c H locs 0 0 Q (F0 m 23 ls []) := by
      intro n
      induction n with
      | zero => intro x3 m4 H locs ls h _ _; exact lq2_0 h
      | succ n ih2 =>
        intro x3 m4 H locs ls h hH hl
        obtain ⟨self2, es2, h⟩ := lq2_s h
        refine lv_iload_n hC.x hC.b dX11_undo_23 rfl (lv_at hl 1 rfl) ?_
        refine lv_aload_n hC.x hC.b dX11_undo_24 rfl (lv_at hl 0 rfl) ?_
        refine r_getc (z := 10) hC hH fl_X11_12_11 (hL _ mX0) sX0 rfl dX11_undo_25 ?_
        refine r_geti hC hH fl_X11_82_2 (hL _ mX10) sX10 rfl dX11_undo_28 ?_
        refine b_ic_ge (tgt := 54) hC dX11_undo_31 (by decide) h (fun h => ?_) (fun h => ?_)
        · refine lv_aload_n hC.x hC.b dX11_undo_54 rfl (lv_at hl 0 rfl) ?_
          refine r_getc (z := 10) hC hH fl_X11_12_11 (hL _ mX0) sX0 rfl dX11_undo_55 ?_
          refine r_geti hC hH fl_X11_82_2 (hL _ mX10) sX10 rfl dX11_undo_58 ?_
          rw [hQ]
          exact e_i hC hr hH h dX11_undo_61
        · refine lv_aload_n hC.x hC.b dX11_undo_34 rfl (lv_at hl 0 rfl) ?_
          refine lv_iload_n hC.x hC.b dX11_undo_35 rfl (lv_at hl 1 rfl) ?_
          obtain ⟨o5, hf5, h⟩ := bd_e h
          refine c_V1 (As := [.int x3]) (rest := []) (o := 0) (q := (RX11, TX11, 13)) hC hX hE.2.1 hF hH (c_X11_find (l := l) hk hL hE hf5) kw267 kw268 kw269 kw2 kw270 a_X11_find.1 a_X11_find.2 (hL _ mX0) sX0 rfl rfl hl.1 (rmk hR (by decide) (by decide)) (Nat.le_of_ble_eq_true rfl) dX11_undo_36 (fun H locs hH => ?_)
          refine o_astn (lv' := [(2, va_rf (Option.map ad o5)), (0, .ref (ad 0)), (1, .int x3)]) hC dX11_undo_39 rfl hl (by decide) rfl (fun ls hl => ?_)
          refine o_aldn hC dX11_undo_40 rfl (lv_at hl 0 rfl) ?_
          obtain ⟨j6, ej6, h⟩ := jn_e h
          have hj6 : ∀ (m9 : gMem) (H : Heap) (locs : List Loc) (ls : Array Slot), (j6 m9) = some (rv, memz) → gH D cy shX ad L (gA ad L) s.heap m9 H locs → lv_has ls 3 [(0, .ref (ad 0)), (1, .int x3)] → W p l e R s m args below meth c H locs 0 0 Q (F0 m 48 ls []) := by
            intro m9 H locs ls h hH hl
            have h := ap1 ej6 h
            refine i_inc (lv' := fun x10 => [(1, .int x10), (0, .ref (ad 0))]) hC dX11_undo_48 hl (k := 1) rfl (by decide) (fun _ => rfl) (z := 1) rfl h (fun x10 ls h hl => ?_)
            refine lv_goto (tgt := 23) hC.x hC.b dX11_undo_51 (by decide) ?_
            exact ih2 x10 m9 H locs ls (ap2 es2 h) hH (lv_sub hl [1, 0] rfl)
          clear ej6
          refine b_null (tgt := 48) hC dX11_undo_41 (by decide) h (fun ho h => ?_) (fun w7 hyw7 h => ?_)
          · subst ho
            have hl : lv_has ls 3 [(2, .null), (0, .ref (ad 0)), (1, .int x3)] := hl
            exact hj6 m4 H locs ls h hH (lv_sub hl [1, 2] rfl)
          · subst hyw7
            have hl : lv_has ls 3 [(2, .ref (ad w7)), (0, .ref (ad 0)), (1, .int x3)] := hl
            obtain ⟨hww7, h⟩ := chk h
            refine lv_aload_n hC.x hC.b dX11_undo_44 rfl (lv_at hl 0 rfl) ?_
            obtain ⟨m8, hf8, h⟩ := bd_e h
            refine v_X11_248_goBack hC hX hk hL hE hF hH hww7 hf8 hl.1 hR (by decide) (by decide) (Nat.le_of_ble_eq_true rfl) dX11_undo_45 (fun H locs hH => ?_)
            exact hj6 m8 H locs ls h hH (lv_sub hl [1, 2] rfl)
    exact hl2 _ (0 : Int32) m1 H locs ls h hH (lv_sub hl [1, 0] rfl)
  · refine lv_bipush (v := -3) hC.x hC.b dX11_undo_7 rfl ?_
    rw [hQ]
    exact e_i hC hr hH h dX11_undo_9
theorem a_X3_holds : noMH yX3_holds.cls ∧ arity yX3_holds.desc 3 := by decide +kernel
def s_X3_together_8 (mem : gMem) (g0 : Nat) (p0 : Int32) (L : List Nat) (self1 : Int32 → Int32 → Int32 → Option Int32) (x2 : Int32) (x3 : Int32) (x4 : Int32) : Option Int32 := if (gI mem g0 0) ≤ x4 then (some x2) else if (10 : Int32) ≤ x4 then (some x2) else if okI x4 10 then jn ((fun (x8 : Int32) => if okI x4 10 then lt1 (gI mem (g0 + 3) (ix x4)) fun (x9 : Int32) => lt1 (x4 + (1 : Int32)) fun (x10 : Int32) => (self1 x8 x9 x10) else none) : Int32 → Option Int32) fun j5 => if (gI mem (g0 + 1) (ix x4)) = p0 then (if okI x4 10 then bd (f_X3_holds L mem g0 x3 (gI mem (g0 + 3) (ix x4))) fun (x6 : Int32) => if x6 = 0 then ((j5 x2)) else if okI x4 10 then lt1 (x2 + (gI mem (g0 + 2) (ix x4))) fun (x7 : Int32) => (j5 x7) else none else none) else (j5 x2) else none
def f_X3_together (L : List Nat) (mem : gMem) (g0 : Nat) (p0 : Int32) : Option Int32 := lq3 (s_X3_together_8 mem g0 p0 L) 1000 (0 : Int32) (0 : Int32) (0 : Int32)
set_option maxRecDepth 100000 in
set_option maxHeartbeats 4000000 in
theorem c_X3_together {l : Launch} {E : State → Prop} {D : va_G} {cy : Nat → ClassId} {ad : Nat → Nat} {L : List Nat} {mem : gMem} {g0 : Nat} {p0 : Int32} {rv : Int32} (hk : gOk ad L) (hL : ∀ o ∈ LX0, o ∈ L) (hE : gEok ad L E) (hg0 : isN g0) (h : f_X3_together L mem g0 p0 = some rv) : gMet l yX3_together cX3_together 6 (some .int) 2 52 E D cy shX ad L [.ref (ad g0), .int p0, .ref (ad 17)] mem mem (some (.int rv)) := by
  refine g_go (own := RX3) (by decide +kernel) rfl hE (Nat.le_of_ble_eq_true rfl) ?_
  intro p e s m args below meth c R Q hargs hR hQ hEs hC hr hX H locs ls hH hl
  have hF := gF_of hk
  have hl : lv_has ls 6 [(0, .ref (ad g0)), (1, .int p0), (2, .ref (ad 17))] := hl
  refine lv_iconst (v := 0) hC.x hC.b dX3_together_0 rfl ?_
  refine lv_istore_n (lv' := [(3, .int (0 : Int32)), (0, .ref (ad g0)), (1, .int p0), (2, .ref (ad 17))]) hC.x hC.b dX3_together_1 rfl hl (by decide) rfl (fun ls hl => ?_)
  refine lv_iconst (v := 0) hC.x hC.b dX3_together_2 rfl ?_
  refine lv_istore (lv' := [(4, .int (0 : Int32)), (3, .int (0 : Int32)), (0, .ref (ad g0)), (1, .int p0), (2, .ref (ad 17))]) hC.x hC.b dX3_together_3 hl (by decide) rfl (fun ls hl => ?_)
  refine lv_iconst (v := 0) hC.x hC.b dX3_together_5 rfl ?_
  refine lv_istore (lv' := [(5, .int (0 : Int32)), (4, .int (0 : Int32)), (3, .int (0 : Int32)), (0, .ref (ad g0)), (1, .int p0), (2, .ref (ad 17))]) hC.x hC.b dX3_together_6 hl (by decide) rfl (fun ls hl => ?_)
  have hl1 : ∀ (n : Nat) (x2 : Int32) (x3 : Int32) (x4 : Int32) (H : Heap) (locs : List Loc) (ls : Array Slot), lq3 (s_X3_together_8 mem g0 p0 L) n x2 x3 x4 = some rv → gH D cy shX ad L (gA ad L) s.heap mem H locs → lv_has ls 6 [(0, .ref (ad g0)), (1, .int p0), (2, .ref (ad 17)), (3, .int x2), (4, .int x3), (5, .int x4)] → W p l e R s m args below meth c H locs 0 0 Q (F0 m 8 ls []) := by
    intro n
    induction n with
    | zero => intro x2 x3 x4 H locs ls h _ _; exact lq3_0 h
    | succ n ih1 =>
      intro x2 x3 x4 H locs ls h hH hl
      obtain ⟨self1, es1, h⟩ := lq3_s h
      refine lv_iload hC.x hC.b dX3_together_8 (lv_at hl 5 rfl) ?_
      refine lv_aload_n hC.x hC.b dX3_together_10 rfl (lv_at hl 0 rfl) ?_
      refine r_geti hC hH fl_X3_24_3 (hL _ (mN hg0 (k := 0) (by decide))) (sN0 hg0) rfl dX3_together_11 ?_
      refine b_ic_ge (tgt := 77) hC dX3_together_14 (by decide) h (fun h => ?_) (fun h => ?_)
      · refine lv_iload_n hC.x hC.b dX3_together_77 rfl (lv_at hl 3 rfl) ?_
        rw [hQ]
        exact e_ir hC hr hH h dX3_together_78
      · refine lv_iload hC.x hC.b dX3_together_17 (lv_at hl 5 rfl) ?_
        refine lv_bipush (v := 10) hC.x hC.b dX3_together_19 rfl ?_
        refine b_ic_ge (tgt := 77) hC dX3_together_21 (by decide) h (fun h => ?_) (fun h => ?_)
        · refine lv_iload_n hC.x hC.b dX3_together_77 rfl (lv_at hl 3 rfl) ?_
          rw [hQ]
          exact e_ir hC hr hH h dX3_together_78
        · refine lv_aload_n hC.x hC.b dX3_together_24 rfl (lv_at hl 0 rfl) ?_
          refine r_getc (z := (g0 + 1)) hC hH fl_X3_9_3 (hL _ (mN hg0 (k := 0) (by decide))) (sN0 hg0) rfl dX3_together_25 ?_
          refine lv_iload hC.x hC.b dX3_together_28 (lv_at hl 5 rfl) ?_
          refine r_iald hC hH (hL _ (mN hg0 (k := 1) (by decide))) (sN1 hg0) h dX3_together_30 (fun h => ?_)
          refine lv_iload_n hC.x hC.b dX3_together_31 rfl (lv_at hl 1 rfl) ?_
          obtain ⟨j5, ej5, h⟩ := jn_e h
          have hj5 : ∀ (x8 : Int32) (H : Heap) (locs : List Loc) (ls : Array Slot), (j5 x8) = some rv → gH D cy shX ad L (gA ad L) s.heap mem H locs → lv_has ls 6 [(0, .ref (ad g0)), (1, .int p0), (2, .ref (ad 17)), (3, .int x8), (5, .int x4)] → W p l e R s m args below meth c H locs 0 0 Q (F0 m 62 ls []) := by
            intro x8 H locs ls h hH hl
            have h := ap1 ej5 h
            refine lv_aload_n hC.x hC.b dX3_together_62 rfl (lv_at hl 0 rfl) ?_
            refine r_getc (z := (g0 + 3)) hC hH fl_X3_18_3 (hL _ (mN hg0 (k := 0) (by decide))) (sN0 hg0) rfl dX3_together_63 ?_
            refine lv_iload hC.x hC.b dX3_together_66 (lv_at hl 4 rfl) ?_
            refine r_iald hC hH (hL _ (mN hg0 (k := 3) (by decide))) (sN3 hg0) h dX3_together_68 (fun h => ?_)
            refine n_i h (fun x9 h => ?_)
            refine lv_istore (lv' := [(4, .int x9), (0, .ref (ad g0)), (1, .int p0), (2, .ref (ad 17)), (3, .int x8), (5, .int x4)]) hC.x hC.b dX3_together_69 hl (by decide) rfl (fun ls hl => ?_)
            refine i_inc (lv' := fun x10 => [(5, .int x10), (4, .int x9), (0, .ref (ad g0)), (1, .int p0), (2, .ref (ad 17)), (3, .int x8)]) hC dX3_together_71 hl (k := 5) rfl (by decide) (fun _ => rfl) (z := 1) rfl h (fun x10 ls h hl => ?_)
            refine lv_goto (tgt := 8) hC.x hC.b dX3_together_74 (by decide) ?_
            exact ih1 x8 x9 x10 H locs ls (ap3 es1 h) hH (lv_sub hl [2, 3, 4, 5, 1, 0] rfl)
          clear ej5
          refine b_ic_ne (tgt := 62) hC dX3_together_32 (by decide) h (fun h => ?_) (fun h => ?_)
          · exact hj5 x2 H locs ls h hH (lv_sub hl [0, 1, 2, 3, 5] rfl)
          · refine lv_aload_n hC.x hC.b dX3_together_35 rfl (lv_at hl 0 rfl) ?_
            refine lv_iload hC.x hC.b dX3_together_36 (lv_at hl 4 rfl) ?_
            refine lv_aload_n hC.x hC.b dX3_together_38 rfl (lv_at hl 0 rfl) ?_
            refine r_getc (z := (g0 + 3)) hC hH fl_X3_18_3 (hL _ (mN hg0 (k := 0) (by decide))) (sN0 hg0) rfl dX3_together_39 ?_
            refine lv_iload hC.x hC.b dX3_together_42 (lv_at hl 5 rfl) ?_
            refine r_iald hC hH (hL _ (mN hg0 (k := 3) (by decide))) (sN3 hg0) h dX3_together_44 (fun h => ?_)
            refine lv_aload_n hC.x hC.b dX3_together_45 rfl (lv_at hl 2 rfl) ?_
            obtain ⟨x6, hf6, h⟩ := bd_e h
            refine c_V1 (As := [.int x3, .int (gI mem (g0 + 3) (ix x4)), .ref (ad 17)]) (rest := []) (o := g0) (q := (RX3, TX3, 6)) hC hX hE.2.1 hF hH (c_X3_holds (l := l) hk hL hE hg0 hf6) kw321 kw322 kw323 kw38 kw324 a_X3_holds.1 a_X3_holds.2 (hL _ (mN hg0 (k := 0) (by decide))) (sN0 hg0) rfl rfl hl.1 (rmk hR (by decide) (by decide)) (Nat.le_of_ble_eq_true rfl) dX3_together_46 (fun H locs hH => ?_)
            refine b_if_eq (tgt := 62) hC dX3_together_49 (by decide) h (fun h => ?_) (fun h => ?_)
            · exact hj5 x2 H locs ls h hH (lv_sub hl [0, 1, 2, 3, 5] rfl)
            · refine lv_iload_n hC.x hC.b dX3_together_52 rfl (lv_at hl 3 rfl) ?_
              refine lv_aload_n hC.x hC.b dX3_together_53 rfl (lv_at hl 0 rfl) ?_
              refine r_getc (z := (g0 + 2)) hC hH fl_X3_15_3 (hL _ (mN hg0 (k := 0) (by decide))) (sN0 hg0) rfl dX3_together_54 ?_
              refine lv_iload hC.x hC.b dX3_together_57 (lv_at hl 5 rfl) ?_
              refine r_iald hC hH (hL _ (mN hg0 (k := 2) (by decide))) (sN2 hg0) h dX3_together_59 (fun h => ?_)
              refine lv_iadd hC.x hC.b dX3_together_60 ?_
              refine n_i h (fun x7 h => ?_)
              refine lv_istore_n (lv' := [(3, .int x7), (0, .ref (ad g0)), (1, .int p0), (2, .ref (ad 17)), (4, .int x3), (5, .int x4)]) hC.x hC.b dX3_together_61 rfl hl (by decide) rfl (fun ls hl => ?_)
              exact hj5 x7 H locs ls h hH (lv_sub hl [1, 2, 3, 0, 5] rfl)
  exact hl1 _ (0 : Int32) (0 : Int32) (0 : Int32) H locs ls h hH (lv_sub hl [3, 4, 5, 2, 1, 0] rfl)
theorem v_X6_7_begin {p : Program} {l : Launch} {e : Env} {R : Room} {s : State} {m : MethodId} {args : Array Value} {below : List Frame} {meth : Method} {c : Code} {H : Heap} {locs : List Loc} {Q : State → Prop} {cc : ByteArray} {nL : Nat} {pc : Nat} {ls : Array Slot} {rest : List Value} {D : va_G} {cy : Nat → ClassId} {ad : Nat → Nat} {L : List Nat} {mem mem' : gMem} {E : State → Prop} {fr0 lo0 w : Nat} {x0 : Int32}  (hC : gC p s m args meth c cc nL RX6 D cy) (hX : gX (gA ad L) s E) (hk : gOk ad L) (hL : ∀ o ∈ LX0, o ∈ L) (hE : gEok ad L E) (hF : gF ad L (gA ad L)) (hH : gH D cy shX ad L (gA ad L) s.heap mem H locs) (hw : wok L w) (hk0 : wkd w = 2 ∨ wkd w = 5) (hf : f_X9_begin L mem w x0 = some mem') (hls : ls.size = nL) (hR : R = gRm fr0 lo0) (h1 : 1 ≤ fr0) (h2 : 21 ≤ lo0) (hW : (rest.map fun v => v.category).sum ≤ 8) (hdg : decode cc pc = .ok (.invokevirtual 7, 3))
    (kk : ∀ (H1 : Heap) (locs1 : List Loc), gH D cy shX ad L (gA ad L) s.heap mem' H1 locs1 → W p l e R s m args below meth c H1 locs1 0 0 Q (F0 m (pc + 3) ls rest)) : W p l e R s m args below meth c H locs 0 0 Q (F0 m pc ls (.int x0 :: .ref (ad w) :: rest)) := by
  by_cases hc : wkd w = 2
  · exact c_U0 (As := [.int x0]) (rest := rest) (o := w) (x := ⟨"OnTiptoe$Soft", "begin", "(I)V"⟩) (owner := "OnTiptoe$Walker") (b0 := cX9_begin) (m0 := 2) (r0 := none) (q := (RX6, TX6, 6)) hC hX hE.2.1 hF hH (c_X9_begin (l := l) (mem := mem) hk hL hE hw hf) kw1131 kw1132 kw1137 kw221 kw1135 kw1134 kw1134 kw1135 (by decide +kernel) a_X9_begin.2 hw.2.2.2.1 (sWk hw hc) rfl rfl hls (rmk hR (by omega) (by omega)) hW hdg kk
  have hz2 := hc
  clear hc
  have hc : wkd w = 5 := by omega
  exact c_U0 (As := [.int x0]) (rest := rest) (o := w) (x := ⟨"OnTiptoe$Soft", "begin", "(I)V"⟩) (owner := "OnTiptoe$Walker") (b0 := cX9_begin) (m0 := 2) (r0 := none) (q := (RX0, TX0, 6)) hC hX hE.2.1 hF hH (c_X9_begin (l := l) (mem := mem) hk hL hE hw hf) kw1131 kw1132 kw1133 kw221 kw1135 kw1134 kw1134 kw1135 (by decide +kernel) a_X9_begin.2 hw.2.2.2.1 (sWk hw hc) rfl rfl hls (rmk hR (by omega) (by omega)) hW hdg kk
theorem a_X9_actTreads : noMH yX9_actTreads.cls ∧ arity yX9_actTreads.desc 1 := by decide +kernel
theorem u_X6_13 {p : Program} {l : Launch} {e : Env} {R : Room} {s : State} {m : MethodId} {args : Array Value} {below : List Frame} {meth : Method} {c : Code} {H : Heap} {locs : List Loc} {cells slots : Nat} {Q : State → Prop} {cc : ByteArray} {nL : Nat} {pc : Nat} {ls : Array Slot} {rest As : List Value} {D : va_G} {cy : Nat → ClassId} {ad : Nat → Nat} {L : List Nat} {A : Nat → Prop} {mem mem' : gMem} {E : State → Prop} {fr lo w : Nat} {v : Value} (hC : gC p s m args meth c cc nL RX6 D cy) (hX : gX A s E) (hB : eBl E) (hF : gF ad L A) (hH : gH D cy shX ad L A s.heap mem H locs) (hM : gMet l yX9_actTreads cX9_actTreads 2 (some .int) fr lo E D cy shX ad L (.ref (ad w) :: As) mem mem' (some v)) (hw : wok L w) (hk : wkd w = 2 ∨ wkd w = 5) (hn : As.length = 1) (hls : ls.size = nL) (hR : fr + 1 ≤ R.frames ∧ 8 + (2 + 11) + lo ≤ R.locals ∧ cells ≤ R.cells ∧ slots ≤ R.slots) (hW : (rest.map fun v => v.category).sum ≤ 8) (hdg : decode cc pc = .ok (.invokespecial 13, 3))
    (kk : ∀ (H1 : Heap) (locs1 : List Loc), gH D cy shX ad L A s.heap mem' H1 locs1 → W p l e R s m args below meth c H1 locs1 cells slots Q (F0 m (pc + 3) ls (v :: rest))) : W p l e R s m args below meth c H locs cells slots Q (F0 m pc ls (As.reverse ++ .ref (ad w) :: rest)) := by
  rcases hk with hk | hk
  · exact c_SU1 (q := (RX6, TX6, 6)) hC hX hB hF hH hM kw1138 kw1126 kw1139 kw221 kw1141 kw1127 (by decide +kernel) a_X9_actTreads.2 hw.2.2.2.1 (sWk hw hk) rfl hn hls hR hW hdg kk
  · exact c_SU1 (q := (RX0, TX0, 6)) hC hX hB hF hH hM kw1138 kw1126 kw1139 kw221 kw1141 kw1127 (by decide +kernel) a_X9_actTreads.2 hw.2.2.2.1 (sWk hw hk) rfl hn hls hR hW hdg kk
def f_X6_actTreads (L : List Nat) (mem : gMem) (w0 : Nat) (p0 : Int32) : Option (Int32 × gMem) := bd (f_X9_begin L mem w0 (30 : Int32)) fun (m1 : gMem) => bd2 (f_X9_actTreads L m1 w0 (p0 * (3 : Int32))) fun (x3 : Int32) (m2 : gMem) => some (x3, m2)
set_option maxRecDepth 100000 in
set_option maxHeartbeats 4000000 in
theorem c_X6_actTreads {l : Launch} {E : State → Prop} {D : va_G} {cy : Nat → ClassId} {ad : Nat → Nat} {L : List Nat} {mem : gMem} {w0 : Nat} {p0 : Int32} {rv : Int32} {memz : gMem} (hk : gOk ad L) (hL : ∀ o ∈ LX0, o ∈ L) (hE : gEok ad L E) (hw0 : wok L w0) (hkd : wkd w0 = 2 ∨ wkd w0 = 5) (h : f_X6_actTreads L mem w0 p0 = some (rv, memz)) : gMet l yX6_actTreads cX6_actTreads 2 (some .int) 2 42 E D cy shX ad L [.ref (ad w0), .int p0] mem memz (some (.int rv)) := by
  refine g_go (own := RX6) (by decide +kernel) rfl hE (Nat.le_of_ble_eq_true rfl) ?_
  intro p e s m args below meth c R Q hargs hR hQ hEs hC hr hX H locs ls hH hl
  have hF := gF_of hk
  have hl : lv_has ls 2 [(0, .ref (ad w0)), (1, .int p0)] := hl
  refine lv_aload_n hC.x hC.b dX6_actTreads_0 rfl (lv_at hl 0 rfl) ?_
  refine lv_bipush (v := 30) hC.x hC.b dX6_actTreads_1 rfl ?_
  obtain ⟨m1, hf1, h⟩ := bd_e h
  refine v_X6_7_begin hC hX hk hL hE hF hH hw0 hkd hf1 hl.1 hR (by decide) (by decide) (Nat.le_of_ble_eq_true rfl) dX6_actTreads_3 (fun H locs hH => ?_)
  refine lv_aload_n hC.x hC.b dX6_actTreads_6 rfl (lv_at hl 0 rfl) ?_
  refine lv_iload_n hC.x hC.b dX6_actTreads_7 rfl (lv_at hl 1 rfl) ?_
  refine lv_iconst (v := 3) hC.x hC.b dX6_actTreads_8 rfl ?_
  refine lv_imul hC.x hC.b dX6_actTreads_9 ?_
  obtain ⟨x3, m2, hf3, h⟩ := bd2_e h
  refine u_X6_13 (As := [.int (p0 * (3 : Int32))]) (rest := []) hC hX hE.2.1 hF hH (c_X9_actTreads (l := l) hk hL hE hw0 hf3) hw0 hkd rfl hl.1 (rmk hR (by decide) (by decide)) (Nat.le_of_ble_eq_true rfl) dX6_actTreads_10 (fun H locs hH => ?_)
  rw [hQ]
  exact e_i hC hr hH h dX6_actTreads_13
theorem v_X7_11_begin {p : Program} {l : Launch} {e : Env} {R : Room} {s : State} {m : MethodId} {args : Array Value} {below : List Frame} {meth : Method} {c : Code} {H : Heap} {locs : List Loc} {Q : State → Prop} {cc : ByteArray} {nL : Nat} {pc : Nat} {ls : Array Slot} {rest : List Value} {D : va_G} {cy : Nat → ClassId} {ad : Nat → Nat} {L : List Nat} {mem mem' : gMem} {E : State → Prop} {fr0 lo0 w : Nat} {x0 : Int32}  (hC : gC p s m args meth c cc nL RX7 D cy) (hX : gX (gA ad L) s E) (hk : gOk ad L) (hL : ∀ o ∈ LX0, o ∈ L) (hE : gEok ad L E) (hF : gF ad L (gA ad L)) (hH : gH D cy shX ad L (gA ad L) s.heap mem H locs) (hw : wok L w) (hk0 : wkd w = 4) (hf : f_X9_begin L mem w x0 = some mem') (hls : ls.size = nL) (hR : R = gRm fr0 lo0) (h1 : 1 ≤ fr0) (h2 : 21 ≤ lo0) (hW : (rest.map fun v => v.category).sum ≤ 8) (hdg : decode cc pc = .ok (.invokevirtual 11, 3))
    (kk : ∀ (H1 : Heap) (locs1 : List Loc), gH D cy shX ad L (gA ad L) s.heap mem' H1 locs1 → W p l e R s m args below meth c H1 locs1 0 0 Q (F0 m (pc + 3) ls rest)) : W p l e R s m args below meth c H locs 0 0 Q (F0 m pc ls (.int x0 :: .ref (ad w) :: rest)) := by
  have hc : wkd w = 4 := by omega
  exact c_U0 (As := [.int x0]) (rest := rest) (o := w) (x := ⟨"OnTiptoe$Tired", "begin", "(I)V"⟩) (owner := "OnTiptoe$Walker") (b0 := cX9_begin) (m0 := 2) (r0 := none) (q := (RX7, TX7, 6)) hC hX hE.2.1 hF hH (c_X9_begin (l := l) (mem := mem) hk hL hE hw hf) kw1158 kw1159 kw1160 kw221 kw1135 kw1134 kw1134 kw1135 (by decide +kernel) a_X9_begin.2 hw.2.2.2.1 (sWk hw hc) rfl rfl hls (rmk hR (by omega) (by omega)) hW hdg kk
theorem u_X7_17 {p : Program} {l : Launch} {e : Env} {R : Room} {s : State} {m : MethodId} {args : Array Value} {below : List Frame} {meth : Method} {c : Code} {H : Heap} {locs : List Loc} {cells slots : Nat} {Q : State → Prop} {cc : ByteArray} {nL : Nat} {pc : Nat} {ls : Array Slot} {rest As : List Value} {D : va_G} {cy : Nat → ClassId} {ad : Nat → Nat} {L : List Nat} {A : Nat → Prop} {mem mem' : gMem} {E : State → Prop} {fr lo w : Nat} {v : Value} (hC : gC p s m args meth c cc nL RX7 D cy) (hX : gX A s E) (hB : eBl E) (hF : gF ad L A) (hH : gH D cy shX ad L A s.heap mem H locs) (hM : gMet l yX9_actTreads cX9_actTreads 2 (some .int) fr lo E D cy shX ad L (.ref (ad w) :: As) mem mem' (some v)) (hw : wok L w) (hk : wkd w = 4) (hn : As.length = 1) (hls : ls.size = nL) (hR : fr + 1 ≤ R.frames ∧ 8 + (2 + 11) + lo ≤ R.locals ∧ cells ≤ R.cells ∧ slots ≤ R.slots) (hW : (rest.map fun v => v.category).sum ≤ 8) (hdg : decode cc pc = .ok (.invokespecial 17, 3))
    (kk : ∀ (H1 : Heap) (locs1 : List Loc), gH D cy shX ad L A s.heap mem' H1 locs1 → W p l e R s m args below meth c H1 locs1 cells slots Q (F0 m (pc + 3) ls (v :: rest))) : W p l e R s m args below meth c H locs cells slots Q (F0 m pc ls (As.reverse ++ .ref (ad w) :: rest)) := by
  rcases hk with hk
  · exact c_SX (ov := (some v)) (x := ⟨"OnTiptoe$Heavy", "actTreads", "(I)I"⟩) (owner := "OnTiptoe$Walker") (q := (RX7, TX7, 6)) hC hX hB hF hH hM rfl kw1360 kw1361 kw358 kw1187 kw221 kw1141 kw1127 (by decide +kernel) a_X9_actTreads.2 hw.2.2.2.1 (sWk hw hk) rfl hn hls hR hW hdg kk
def f_X7_actTreads (L : List Nat) (mem : gMem) (w0 : Nat) (p0 : Int32) : Option (Int32 × gMem) := bd (f_X9_begin L mem w0 (50 : Int32)) fun (m1 : gMem) => bd2 (f_X9_actTreads L m1 w0 p0) fun (x3 : Int32) (m2 : gMem) => some ((-x3), m2)
set_option maxRecDepth 100000 in
set_option maxHeartbeats 4000000 in
theorem c_X7_actTreads {l : Launch} {E : State → Prop} {D : va_G} {cy : Nat → ClassId} {ad : Nat → Nat} {L : List Nat} {mem : gMem} {w0 : Nat} {p0 : Int32} {rv : Int32} {memz : gMem} (hk : gOk ad L) (hL : ∀ o ∈ LX0, o ∈ L) (hE : gEok ad L E) (hw0 : wok L w0) (hkd : wkd w0 = 4) (h : f_X7_actTreads L mem w0 p0 = some (rv, memz)) : gMet l yX7_actTreads cX7_actTreads 2 (some .int) 2 42 E D cy shX ad L [.ref (ad w0), .int p0] mem memz (some (.int rv)) := by
  refine g_go (own := RX7) (by decide +kernel) rfl hE (Nat.le_of_ble_eq_true rfl) ?_
  intro p e s m args below meth c R Q hargs hR hQ hEs hC hr hX H locs ls hH hl
  have hF := gF_of hk
  have hl : lv_has ls 2 [(0, .ref (ad w0)), (1, .int p0)] := hl
  refine lv_aload_n hC.x hC.b dX7_actTreads_0 rfl (lv_at hl 0 rfl) ?_
  refine lv_bipush (v := 50) hC.x hC.b dX7_actTreads_1 rfl ?_
  obtain ⟨m1, hf1, h⟩ := bd_e h
  refine v_X7_11_begin hC hX hk hL hE hF hH hw0 hkd hf1 hl.1 hR (by decide) (by decide) (Nat.le_of_ble_eq_true rfl) dX7_actTreads_3 (fun H locs hH => ?_)
  refine lv_aload_n hC.x hC.b dX7_actTreads_6 rfl (lv_at hl 0 rfl) ?_
  refine lv_iload_n hC.x hC.b dX7_actTreads_7 rfl (lv_at hl 1 rfl) ?_
  obtain ⟨x3, m2, hf3, h⟩ := bd2_e h
  refine u_X7_17 (As := [.int p0]) (rest := []) hC hX hE.2.1 hF hH (c_X9_actTreads (l := l) hk hL hE hw0 hf3) hw0 hkd rfl hl.1 (rmk hR (by decide) (by decide)) (Nat.le_of_ble_eq_true rfl) dX7_actTreads_8 (fun H locs hH => ?_)
  refine lv_ineg hC.x hC.b dX7_actTreads_11 ?_
  rw [hQ]
  exact e_i hC hr hH h dX7_actTreads_12
theorem v_X8_38_begin {p : Program} {l : Launch} {e : Env} {R : Room} {s : State} {m : MethodId} {args : Array Value} {below : List Frame} {meth : Method} {c : Code} {H : Heap} {locs : List Loc} {Q : State → Prop} {cc : ByteArray} {nL : Nat} {pc : Nat} {ls : Array Slot} {rest : List Value} {D : va_G} {cy : Nat → ClassId} {ad : Nat → Nat} {L : List Nat} {mem mem' : gMem} {E : State → Prop} {fr0 lo0 w : Nat} {x0 : Int32}  (hC : gC p s m args meth c cc nL RX8 D cy) (hX : gX (gA ad L) s E) (hk : gOk ad L) (hL : ∀ o ∈ LX0, o ∈ L) (hE : gEok ad L E) (hF : gF ad L (gA ad L)) (hH : gH D cy shX ad L (gA ad L) s.heap mem H locs) (hw : wok L w) (hk0 : wkd w = 6) (hf : f_X9_begin L mem w x0 = some mem') (hls : ls.size = nL) (hR : R = gRm fr0 lo0) (h1 : 1 ≤ fr0) (h2 : 21 ≤ lo0) (hW : (rest.map fun v => v.category).sum ≤ 8) (hdg : decode cc pc = .ok (.invokevirtual 38, 3))
    (kk : ∀ (H1 : Heap) (locs1 : List Loc), gH D cy shX ad L (gA ad L) s.heap mem' H1 locs1 → W p l e R s m args below meth c H1 locs1 0 0 Q (F0 m (pc + 3) ls rest)) : W p l e R s m args below meth c H locs 0 0 Q (F0 m pc ls (.int x0 :: .ref (ad w) :: rest)) := by
  have hc : wkd w = 6 := by omega
  exact c_U0 (As := [.int x0]) (rest := rest) (o := w) (x := ⟨"OnTiptoe$Told", "begin", "(I)V"⟩) (owner := "OnTiptoe$Walker") (b0 := cX9_begin) (m0 := 2) (r0 := none) (q := (RX8, TX8, 8)) hC hX hE.2.1 hF hH (c_X9_begin (l := l) (mem := mem) hk hL hE hw hf) kw1166 kw1167 kw1168 kw221 kw1135 kw1134 kw1134 kw1135 (by decide +kernel) a_X9_begin.2 hw.2.2.2.1 (sWk hw hc) rfl rfl hls (rmk hR (by omega) (by omega)) hW hdg kk
theorem u_X8_46 {p : Program} {l : Launch} {e : Env} {R : Room} {s : State} {m : MethodId} {args : Array Value} {below : List Frame} {meth : Method} {c : Code} {H : Heap} {locs : List Loc} {cells slots : Nat} {Q : State → Prop} {cc : ByteArray} {nL : Nat} {pc : Nat} {ls : Array Slot} {rest As : List Value} {D : va_G} {cy : Nat → ClassId} {ad : Nat → Nat} {L : List Nat} {A : Nat → Prop} {mem mem' : gMem} {E : State → Prop} {fr lo w : Nat} {v : Value} (hC : gC p s m args meth c cc nL RX8 D cy) (hX : gX A s E) (hB : eBl E) (hF : gF ad L A) (hH : gH D cy shX ad L A s.heap mem H locs) (hM : gMet l yX9_actTreads cX9_actTreads 2 (some .int) fr lo E D cy shX ad L (.ref (ad w) :: As) mem mem' (some v)) (hw : wok L w) (hk : wkd w = 6) (hn : As.length = 1) (hls : ls.size = nL) (hR : fr + 1 ≤ R.frames ∧ 8 + (2 + 11) + lo ≤ R.locals ∧ cells ≤ R.cells ∧ slots ≤ R.slots) (hW : (rest.map fun v => v.category).sum ≤ 8) (hdg : decode cc pc = .ok (.invokespecial 46, 3))
    (kk : ∀ (H1 : Heap) (locs1 : List Loc), gH D cy shX ad L A s.heap mem' H1 locs1 → W p l e R s m args below meth c H1 locs1 cells slots Q (F0 m (pc + 3) ls (v :: rest))) : W p l e R s m args below meth c H locs cells slots Q (F0 m pc ls (As.reverse ++ .ref (ad w) :: rest)) := by
  rcases hk with hk
  · exact c_SX (ov := (some v)) (x := ⟨"OnTiptoe$Slow", "actTreads", "(I)I"⟩) (owner := "OnTiptoe$Walker") (q := (RX8, TX8, 8)) hC hX hB hF hH hM rfl kw1362 kw1363 kw364 kw1224 kw221 kw1141 kw1127 (by decide +kernel) a_X9_actTreads.2 hw.2.2.2.1 (sWk hw hk) rfl hn hls hR hW hdg kk
theorem fl_X8_49_8 : gFl RX8 49 8 1 := ⟨RX8, TX8, 8, "OnTiptoe$Told", rfl, inW8, by decide, kw1164, Or.inr kw1165⟩
def f_X8_actTreads (L : List Nat) (mem : gMem) (w0 : Nat) (p0 : Int32) : Option (Int32 × gMem) := bd (f_X9_begin L mem w0 (71 : Int32)) fun (m1 : gMem) => bd2 (f_X9_actTreads L m1 w0 p0) fun (x3 : Int32) (m2 : gMem) => some ((x3 ^^^ (gI m2 w0 1)), m2)
set_option maxRecDepth 100000 in
set_option maxHeartbeats 4000000 in
theorem c_X8_actTreads {l : Launch} {E : State → Prop} {D : va_G} {cy : Nat → ClassId} {ad : Nat → Nat} {L : List Nat} {mem : gMem} {w0 : Nat} {p0 : Int32} {rv : Int32} {memz : gMem} (hk : gOk ad L) (hL : ∀ o ∈ LX0, o ∈ L) (hE : gEok ad L E) (hw0 : wok L w0) (hkd : wkd w0 = 6) (h : f_X8_actTreads L mem w0 p0 = some (rv, memz)) : gMet l yX8_actTreads cX8_actTreads 2 (some .int) 2 42 E D cy shX ad L [.ref (ad w0), .int p0] mem memz (some (.int rv)) := by
  refine g_go (own := RX8) (by decide +kernel) rfl hE (Nat.le_of_ble_eq_true rfl) ?_
  intro p e s m args below meth c R Q hargs hR hQ hEs hC hr hX H locs ls hH hl
  have hF := gF_of hk
  have hl : lv_has ls 2 [(0, .ref (ad w0)), (1, .int p0)] := hl
  refine lv_aload_n hC.x hC.b dX8_actTreads_0 rfl (lv_at hl 0 rfl) ?_
  refine lv_bipush (v := 71) hC.x hC.b dX8_actTreads_1 rfl ?_
  obtain ⟨m1, hf1, h⟩ := bd_e h
  refine v_X8_38_begin hC hX hk hL hE hF hH hw0 hkd hf1 hl.1 hR (by decide) (by decide) (Nat.le_of_ble_eq_true rfl) dX8_actTreads_3 (fun H locs hH => ?_)
  refine lv_aload_n hC.x hC.b dX8_actTreads_6 rfl (lv_at hl 0 rfl) ?_
  refine lv_iload_n hC.x hC.b dX8_actTreads_7 rfl (lv_at hl 1 rfl) ?_
  obtain ⟨x3, m2, hf3, h⟩ := bd2_e h
  refine u_X8_46 (As := [.int p0]) (rest := []) hC hX hE.2.1 hF hH (c_X9_actTreads (l := l) hk hL hE hw0 hf3) hw0 hkd rfl hl.1 (rmk hR (by decide) (by decide)) (Nat.le_of_ble_eq_true rfl) dX8_actTreads_8 (fun H locs hH => ?_)
  refine lv_aload_n hC.x hC.b dX8_actTreads_11 rfl (lv_at hl 0 rfl) ?_
  refine r_geti hC hH fl_X8_49_8 hw0.2.2.2.1 (sWT hw0 hkd) rfl dX8_actTreads_12 ?_
  refine lv_ixor hC.x hC.b dX8_actTreads_15 ?_
  rw [hQ]
  exact e_i hC hr hH h dX8_actTreads_16
theorem pl_X10_63_10 : gPl RX10 63 10 5 "I" := ⟨RX10, TX10, 10, tyX10, "OnTiptoe$Ways", rfl, inW10, tyX10_ok, nmX10, by decide, kw822, Or.inl rfl, rfl, rfl⟩
theorem pl_X10_66_10 : gPl RX10 66 10 6 "I" := ⟨RX10, TX10, 10, tyX10, "OnTiptoe$Ways", rfl, inW10, tyX10_ok, nmX10, by decide, kw823, Or.inl rfl, rfl, rfl⟩
theorem pl_X10_69_10 : gPl RX10 69 10 7 "I" := ⟨RX10, TX10, 10, tyX10, "OnTiptoe$Ways", rfl, inW10, tyX10_ok, nmX10, by decide, kw824, Or.inl rfl, rfl, rfl⟩
theorem fl_X10_72_2 : gFl RX10 72 2 8 := ⟨RX2, TX2, 17, "OnTiptoe$House", rfl, inW2, by decide, kw825, Or.inl rfl⟩
theorem fl_X10_75_2 : gFl RX10 75 2 7 := ⟨RX2, TX2, 17, "OnTiptoe$House", rfl, inW2, by decide, kw826, Or.inl rfl⟩
theorem fl_X10_63_10 : gFl RX10 63 10 5 := ⟨RX10, TX10, 10, "OnTiptoe$Ways", rfl, inW10, by decide, kw822, Or.inl rfl⟩
theorem a_X11_areBeside : noMH yX11_areBeside.cls ∧ arity yX11_areBeside.desc 2 := by decide +kernel
theorem fl_X10_66_10 : gFl RX10 66 10 6 := ⟨RX10, TX10, 10, "OnTiptoe$Ways", rfl, inW10, by decide, kw823, Or.inl rfl⟩
theorem fl_X10_27_10 : gFl RX10 27 10 2 := ⟨RX10, TX10, 10, "OnTiptoe$Ways", rfl, inW10, by decide, kw801, Or.inl rfl⟩
theorem a_X10_noiseAt : noMH yX10_noiseAt.cls ∧ arity yX10_noiseAt.desc 2 := by decide +kernel
theorem fl_X10_15_10 : gFl RX10 15 10 1 := ⟨RX10, TX10, 10, "OnTiptoe$Ways", rfl, inW10, by decide, kw62, Or.inl rfl⟩
theorem fl_X10_69_10 : gFl RX10 69 10 7 := ⟨RX10, TX10, 10, "OnTiptoe$Ways", rfl, inW10, by decide, kw824, Or.inl rfl⟩
theorem a_X11_stirsBehind : noMH yX11_stirsBehind.cls ∧ arity yX11_stirsBehind.desc 3 := by decide +kernel
def s_X10_follow_19 (L : List Nat) (j4 : Int32 → gMem → Option (Int32 × gMem)) (self5 : Int32 → gMem → Option (Int32 × gMem)) (x6 : Int32) (m7 : gMem) : Option (Int32 × gMem) := if (gI m7 10 8) ≤ x6 then (some ((-5 : Int32), m7)) else if (12 : Int32) ≤ x6 then (some ((-5 : Int32), m7)) else if okI x6 12 then lt1 (gI m7 12 (ix x6)) fun (x8 : Int32) => bd (f_X11_areBeside (gI m7 32 5) x8) fun (x9 : Int32) => jn ((fun (m19 : gMem) => lt1 (x6 + (1 : Int32)) fun (x20 : Int32) => (self5 x20 m19)) : gMem → Option (Int32 × gMem)) fun j10 => if x9 = 0 then (lt1 (gsI m7 32 6 ((gI m7 32 6) + (1 : Int32))) fun (m17 : gMem) => lt1 (gsI m17 32 7 (if (0 : Int32) < ((gI m17 32 7) - (1 : Int32)) then ((gI m17 32 7) - (1 : Int32)) else (0 : Int32))) fun (m18 : gMem) => (j10 m18)) else lt1 (gsI m7 32 6 ((gI m7 32 6) + (gI m7 32 2))) fun (m11 : gMem) => lt1 (gsI m11 32 5 x8) fun (m12 : gMem) => bd (f_X10_noiseAt L m12 x8 (gI m12 32 6)) fun (x13 : Int32) => bd (f_J9_floorMod_7cf53 (gI m12 32 6) (12 : Int32)) fun (x14 : Int32) => if okI x14 12 then bd (f_X11_stirsBehind x13 (gI m12 34 (ix x14)) (gI m12 32 7)) fun (x15 : Int32) => lt1 (gsI m12 32 7 x15) fun (m16 : gMem) => if (gI m16 32 7) < (3 : Int32) then ((j10 m16)) else (j4 x6 m16) else none else none
def f_X10_follow (L : List Nat) (mem : gMem) (p1 : Int32) (p2 : Int32) (p3 : Int32) : Option (Int32 × gMem) := lt1 (gsI mem 32 5 p1) fun (m1 : gMem) => lt1 (gsI m1 32 6 p2) fun (m2 : gMem) => lt1 (gsI m2 32 7 p3) fun (m3 : gMem) => jn ((fun (x21 : Int32) (m22 : gMem) => lt1 (gsI m22 32 7 (0 : Int32)) fun (m23 : gMem) => some (x21, m23)) : Int32 → gMem → Option (Int32 × gMem)) fun j4 => lq2 (s_X10_follow_19 L j4) 1000 (0 : Int32) m3
set_option maxRecDepth 100000 in
set_option maxHeartbeats 4000000 in
theorem c_X10_follow {l : Launch} {E : State → Prop} {D : va_G} {cy : Nat → ClassId} {ad : Nat → Nat} {L : List Nat} {mem : gMem} {p1 : Int32} {p2 : Int32} {p3 : Int32} {rv : Int32} {memz : gMem} (hk : gOk ad L) (hL : ∀ o ∈ LX0, o ∈ L) (hE : gEok ad L E)  (h : f_X10_follow L mem p1 p2 p3 = some (rv, memz)) : gMet l yX10_follow cX10_follow 7 (some .int) 2 45 E D cy shX ad L [.ref (ad 32), .ref (ad 10), .int p1, .int p2, .int p3] mem memz (some (.int rv)) := by
  refine g_go (own := RX10) (by decide +kernel) rfl hE (Nat.le_of_ble_eq_true rfl) ?_
  intro p e s m args below meth c R Q hargs hR hQ hEs hC hr hX H locs ls hH hl
  have hF := gF_of hk
  have hl : lv_has ls 7 [(0, .ref (ad 32)), (1, .ref (ad 10)), (2, .int p1), (3, .int p2), (4, .int p3)] := hl
  refine lv_aload_n hC.x hC.b dX10_follow_0 rfl (lv_at hl 0 rfl) ?_
  refine lv_iload_n hC.x hC.b dX10_follow_1 rfl (lv_at hl 2 rfl) ?_
  refine r_puti hC hF hH pl_X10_63_10 (hL _ mX32) sX32 rfl h dX10_follow_2 (fun m1 H locs h hH => ?_)
  refine lv_aload_n hC.x hC.b dX10_follow_5 rfl (lv_at hl 0 rfl) ?_
  refine lv_iload_n hC.x hC.b dX10_follow_6 rfl (lv_at hl 3 rfl) ?_
  refine r_puti hC hF hH pl_X10_66_10 (hL _ mX32) sX32 rfl h dX10_follow_7 (fun m2 H locs h hH => ?_)
  refine lv_aload_n hC.x hC.b dX10_follow_10 rfl (lv_at hl 0 rfl) ?_
  refine lv_iload hC.x hC.b dX10_follow_11 (lv_at hl 4 rfl) ?_
  refine r_puti hC hF hH pl_X10_69_10 (hL _ mX32) sX32 rfl h dX10_follow_13 (fun m3 H locs h hH => ?_)
  refine lv_iconst (v := 0) hC.x hC.b dX10_follow_16 rfl ?_
  refine lv_istore (lv' := [(5, .int (0 : Int32)), (0, .ref (ad 32)), (1, .ref (ad 10)), (2, .int p1), (3, .int p2), (4, .int p3)]) hC.x hC.b dX10_follow_17 hl (by decide) rfl (fun ls hl => ?_)
  obtain ⟨j4, ej4, h⟩ := jn_e h
  have hj4 : ∀ (x21 : Int32) (m22 : gMem) (H : Heap) (locs : List Loc) (ls : Array Slot), (j4 x21 m22) = some (rv, memz) → gH D cy shX ad L (gA ad L) s.heap m22 H locs → lv_has ls 7 [(0, .ref (ad 32)), (5, .int x21)] → W p l e R s m args below meth c H locs 0 0 Q (F0 m 145 ls []) := by
    intro x21 m22 H locs ls h hH hl
    have h := ap2 ej4 h
    refine lv_aload_n hC.x hC.b dX10_follow_145 rfl (lv_at hl 0 rfl) ?_
    refine lv_iconst (v := 0) hC.x hC.b dX10_follow_146 rfl ?_
    refine r_puti hC hF hH pl_X10_69_10 (hL _ mX32) sX32 rfl h dX10_follow_147 (fun m23 H locs h hH => ?_)
    refine lv_iload hC.x hC.b dX10_follow_150 (lv_at hl 1 rfl) ?_
    rw [hQ]
    exact e_i hC hr hH h dX10_follow_152
  clear ej4
  have hl5 : ∀ (n : Nat) (x6 : Int32) (m7 : gMem) (H : Heap) (locs : List Loc) (ls : Array Slot), lq2 (s_X10_follow_19 L j4) n x6 m7 = some (rv, memz) → gH D cy shX ad L (gA ad L) s.heap m7 H locs → lv_has ls 7 [(0, .ref (ad 32)), (1, .ref (ad 10)), (5, .int x6)] → W p l e R s m args below meth c H locs 0 0 Q (F0 m 19 ls []) := by
    intro n
    induction n with
    | zero => intro x6 m7 H locs ls h _ _; exact lq2_0 h
    | succ n ih5 =>
      intro x6 m7 H locs ls h hH hl
      obtain ⟨self5, es5, h⟩ := lq2_s h
      refine lv_iload hC.x hC.b dX10_follow_19 (lv_at hl 2 rfl) ?_
      refine lv_aload_n hC.x hC.b dX10_follow_21 rfl (lv_at hl 1 rfl) ?_
      refine r_geti hC hH fl_X10_72_2 (hL _ mX10) sX10 rfl dX10_follow_22 ?_
      refine b_ic_ge (tgt := 159) hC dX10_follow_25 (by decide) h (fun h => ?_) (fun h => ?_)
      · refine lv_bipush (v := -5) hC.x hC.b dX10_follow_159 rfl ?_
        rw [hQ]
        exact e_i hC hr hH h dX10_follow_161
      · refine lv_iload hC.x hC.b dX10_follow_28 (lv_at hl 2 rfl) ?_
        refine lv_bipush (v := 12) hC.x hC.b dX10_follow_30 rfl ?_
        refine b_ic_ge (tgt := 159) hC dX10_follow_32 (by decide) h (fun h => ?_) (fun h => ?_)
        · refine lv_bipush (v := -5) hC.x hC.b dX10_follow_159 rfl ?_
          rw [hQ]
          exact e_i hC hr hH h dX10_follow_161
        · refine lv_aload_n hC.x hC.b dX10_follow_35 rfl (lv_at hl 1 rfl) ?_
          refine r_getc (z := 12) hC hH fl_X10_75_2 (hL _ mX10) sX10 rfl dX10_follow_36 ?_
          refine lv_iload hC.x hC.b dX10_follow_39 (lv_at hl 2 rfl) ?_
          refine r_iald hC hH (hL _ mX12) sX12 h dX10_follow_41 (fun h => ?_)
          refine n_i h (fun x8 h => ?_)
          refine lv_istore (lv' := [(6, .int x8), (0, .ref (ad 32)), (1, .ref (ad 10)), (5, .int x6)]) hC.x hC.b dX10_follow_42 hl (by decide) rfl (fun ls hl => ?_)
          refine lv_aload_n hC.x hC.b dX10_follow_44 rfl (lv_at hl 1 rfl) ?_
          refine r_geti hC hH fl_X10_63_10 (hL _ mX32) sX32 rfl dX10_follow_45 ?_
          refine lv_iload hC.x hC.b dX10_follow_48 (lv_at hl 0 rfl) ?_
          obtain ⟨x9, hf9, h⟩ := bd_e h
          refine c_SN1 (As := [.int (gI m7 32 5), .int x8]) (rest := []) (host := RX11) hC hX hE.2.1 hF hH (c_X11_areBeside (l := l) hk hL hE hf9) ((hE.2.2 _ hEs).1 (RX10, 78, yX11_areBeside, RX11) (by decide)) kw720 kw2 kw721 a_X11_areBeside.1 a_X11_areBeside.2 rfl hl.1 (rmk hR (by decide) (by decide)) (Nat.le_of_ble_eq_true rfl) dX10_follow_50 (fun H locs hH => ?_)
          obtain ⟨j10, ej10, h⟩ := jn_e h
          have hj10 : ∀ (m19 : gMem) (H : Heap) (locs : List Loc) (ls : Array Slot), (j10 m19) = some (rv, memz) → gH D cy shX ad L (gA ad L) s.heap m19 H locs → lv_has ls 7 [(0, .ref (ad 32)), (1, .ref (ad 10)), (5, .int x6)] → W p l e R s m args below meth c H locs 0 0 Q (F0 m 153 ls []) := by
            intro m19 H locs ls h hH hl
            have h := ap1 ej10 h
            refine i_inc (lv' := fun x20 => [(5, .int x20), (0, .ref (ad 32)), (1, .ref (ad 10))]) hC dX10_follow_153 hl (k := 2) rfl (by decide) (fun _ => rfl) (z := 1) rfl h (fun x20 ls h hl => ?_)
            refine lv_goto (tgt := 19) hC.x hC.b dX10_follow_156 (by decide) ?_
            exact ih5 x20 m19 H locs ls (ap2 es5 h) hH (lv_sub hl [1, 2, 0] rfl)
          clear ej10
          refine b_if_ne (tgt := 83) hC dX10_follow_53 (by decide) h (fun h => ?_) (fun h => ?_)
          · refine lv_aload_n hC.x hC.b dX10_follow_83 rfl (lv_at hl 1 rfl) ?_
            refine lv_dup hC.x hC.b dX10_follow_84 rfl ?_
            refine r_geti hC hH fl_X10_66_10 (hL _ mX32) sX32 rfl dX10_follow_85 ?_
            refine lv_aload_n hC.x hC.b dX10_follow_88 rfl (lv_at hl 1 rfl) ?_
            refine r_geti hC hH fl_X10_27_10 (hL _ mX32) sX32 rfl dX10_follow_89 ?_
            refine lv_iadd hC.x hC.b dX10_follow_92 ?_
            refine r_puti hC hF hH pl_X10_66_10 (hL _ mX32) sX32 rfl h dX10_follow_93 (fun m11 H locs h hH => ?_)
            refine lv_aload_n hC.x hC.b dX10_follow_96 rfl (lv_at hl 1 rfl) ?_
            refine lv_iload hC.x hC.b dX10_follow_97 (lv_at hl 0 rfl) ?_
            refine r_puti hC hF hH pl_X10_63_10 (hL _ mX32) sX32 rfl h dX10_follow_99 (fun m12 H locs h hH => ?_)
            refine lv_aload_n hC.x hC.b dX10_follow_102 rfl (lv_at hl 1 rfl) ?_
            refine lv_aload_n hC.x hC.b dX10_follow_103 rfl (lv_at hl 1 rfl) ?_
            refine lv_iload hC.x hC.b dX10_follow_104 (lv_at hl 0 rfl) ?_
            refine lv_aload_n hC.x hC.b dX10_follow_106 rfl (lv_at hl 1 rfl) ?_
            refine r_geti hC hH fl_X10_66_10 (hL _ mX32) sX32 rfl dX10_follow_107 ?_
            obtain ⟨x13, hf13, h⟩ := bd_e h
            refine c_V1 (As := [.int x8, .int (gI m12 32 6)]) (rest := [.ref (ad 32)]) (o := 32) (q := (RX10, TX10, 10)) hC hX hE.2.1 hF hH (c_X10_noiseAt (l := l) hk hL hE hf13) kw828 kw829 kw830 kw28 kw831 a_X10_noiseAt.1 a_X10_noiseAt.2 (hL _ mX32) sX32 rfl rfl hl.1 (rmk hR (by decide) (by decide)) (Nat.le_of_ble_eq_true rfl) dX10_follow_110 (fun H locs hH => ?_)
            refine lv_aload_n hC.x hC.b dX10_follow_113 rfl (lv_at hl 1 rfl) ?_
            refine r_getc (z := 34) hC hH fl_X10_15_10 (hL _ mX32) sX32 rfl dX10_follow_114 ?_
            refine lv_aload_n hC.x hC.b dX10_follow_117 rfl (lv_at hl 1 rfl) ?_
            refine r_geti hC hH fl_X10_66_10 (hL _ mX32) sX32 rfl dX10_follow_118 ?_
            refine lv_bipush (v := 12) hC.x hC.b dX10_follow_121 rfl ?_
            obtain ⟨x14, hf14, h⟩ := bd_e h
            refine c_S1 (As := [.int (gI m12 32 6), .int (12 : Int32)]) (rest := [.ref (ad 34), .int x13, .ref (ad 32)]) hC hX hE.2.1 hF hH (c_J9_floorMod_7cf53 (l := l) hk hL hE hf14) kw832 kw366 kw310 kw368 a_J9_floorMod_7cf53.1 a_J9_floorMod_7cf53.2 rfl hl.1 (rmk hR (by decide) (by decide)) (Nat.le_of_ble_eq_true rfl) dX10_follow_123 (fun H locs hH => ?_)
            refine r_iald hC hH (hL _ mX34) sX34 h dX10_follow_126 (fun h => ?_)
            refine lv_aload_n hC.x hC.b dX10_follow_127 rfl (lv_at hl 1 rfl) ?_
            refine r_geti hC hH fl_X10_69_10 (hL _ mX32) sX32 rfl dX10_follow_128 ?_
            obtain ⟨x15, hf15, h⟩ := bd_e h
            refine c_SN1 (As := [.int x13, .int (gI m12 34 (ix x14)), .int (gI m12 32 7)]) (rest := [.ref (ad 32)]) (host := RX11) hC hX hE.2.1 hF hH (c_X11_stirsBehind (l := l) hk hL hE hf15) ((hE.2.2 _ hEs).1 (RX10, 93, yX11_stirsBehind, RX11) (by decide)) kw741 kw2 kw742 a_X11_stirsBehind.1 a_X11_stirsBehind.2 rfl hl.1 (rmk hR (by decide) (by decide)) (Nat.le_of_ble_eq_true rfl) dX10_follow_131 (fun H locs hH => ?_)
            refine r_puti hC hF hH pl_X10_69_10 (hL _ mX32) sX32 rfl h dX10_follow_134 (fun m16 H locs h hH => ?_)
            refine lv_aload_n hC.x hC.b dX10_follow_137 rfl (lv_at hl 1 rfl) ?_
            refine r_geti hC hH fl_X10_69_10 (hL _ mX32) sX32 rfl dX10_follow_138 ?_
            refine lv_iconst (v := 3) hC.x hC.b dX10_follow_141 rfl ?_
            refine b_ic_lt (tgt := 153) hC dX10_follow_142 (by decide) h (fun h => ?_) (fun h => ?_)
            · exact hj10 m16 H locs ls h hH (lv_sub hl [1, 2, 3] rfl)
            · exact hj4 x6 m16 H locs ls h hH (lv_sub hl [1, 3] rfl)
          · refine lv_aload_n hC.x hC.b dX10_follow_56 rfl (lv_at hl 1 rfl) ?_
            refine lv_dup hC.x hC.b dX10_follow_57 rfl ?_
            refine r_geti hC hH fl_X10_66_10 (hL _ mX32) sX32 rfl dX10_follow_58 ?_
            refine lv_iconst (v := 1) hC.x hC.b dX10_follow_61 rfl ?_
            refine lv_iadd hC.x hC.b dX10_follow_62 ?_
            refine r_puti hC hF hH pl_X10_66_10 (hL _ mX32) sX32 rfl h dX10_follow_63 (fun m17 H locs h hH => ?_)
            refine lv_aload_n hC.x hC.b dX10_follow_66 rfl (lv_at hl 1 rfl) ?_
            refine lv_iconst (v := 0) hC.x hC.b dX10_follow_67 rfl ?_
            refine lv_aload_n hC.x hC.b dX10_follow_68 rfl (lv_at hl 1 rfl) ?_
            refine r_geti hC hH fl_X10_69_10 (hL _ mX32) sX32 rfl dX10_follow_69 ?_
            refine lv_iconst (v := 1) hC.x hC.b dX10_follow_72 rfl ?_
            refine lv_isub hC.x hC.b dX10_follow_73 ?_
            refine m_max hC hl.1 kw827 kw309 kw310 kw311 (rmM hR (by decide) (Nat.le_of_ble_eq_true rfl)) dX10_follow_74 ?_
            refine r_puti hC hF hH pl_X10_69_10 (hL _ mX32) sX32 rfl h dX10_follow_77 (fun m18 H locs h hH => ?_)
            refine lv_goto (tgt := 153) hC.x hC.b dX10_follow_80 (by decide) ?_
            exact hj10 m18 H locs ls h hH (lv_sub hl [1, 2, 3] rfl)
  exact hl5 _ (0 : Int32) m3 H locs ls h hH (lv_sub hl [1, 2, 0] rfl)
theorem a_X10_leastAt : noMH yX10_leastAt.cls ∧ arity yX10_leastAt.desc 2 := by decide +kernel
theorem a_X10_lower : noMH yX10_lower.cls ∧ arity yX10_lower.desc 3 := by decide +kernel
def s_X10_spread_34 (p1 : Int32) (L : List Nat) (p2 : Int32) (p3 : Int32) (x1 : Int32) (p0 : Int32) (self3 : Int32 → gMem → Option gMem) (x4 : Int32) (m5 : gMem) : Option gMem := if (3 : Int32) ≤ x4 then (some m5) else bd (f_X11_boardBeside p1 x4) fun (x6 : Int32) => bd (f_X11_isBoard x6) fun (x7 : Int32) => jn ((fun (m12 : gMem) => lt1 (x4 + (1 : Int32)) fun (x13 : Int32) => (self3 x13 m12)) : gMem → Option gMem) fun j8 => if x7 = 0 then ((j8 m5)) else bd (f_X10_noiseAt L m5 x6 p2) fun (x9 : Int32) => bd (f_X11_stirsBehind x9 p3 x1) fun (x10 : Int32) => bd (f_X10_lower L m5 (p0 + (gI m5 32 2)) x6 x10) fun (m11 : gMem) => (j8 m11)
def f_X10_spread (L : List Nat) (mem : gMem) (p0 : Int32) (p1 : Int32) (p2 : Int32) (p3 : Int32) : Option gMem := bd (f_X10_leastAt L mem p0 p1) fun (x1 : Int32) => if x1 < (3 : Int32) then (bd (f_X10_lower L mem (p0 + (1 : Int32)) p1 (if (0 : Int32) < (x1 - (1 : Int32)) then (x1 - (1 : Int32)) else (0 : Int32))) fun (m2 : gMem) => lq2 (s_X10_spread_34 p1 L p2 p3 x1 p0) 1000 (0 : Int32) m2) else some mem
set_option maxRecDepth 100000 in
set_option maxHeartbeats 4000000 in
theorem c_X10_spread {l : Launch} {E : State → Prop} {D : va_G} {cy : Nat → ClassId} {ad : Nat → Nat} {L : List Nat} {mem : gMem} {p0 : Int32} {p1 : Int32} {p2 : Int32} {p3 : Int32} {memz : gMem} (hk : gOk ad L) (hL : ∀ o ∈ LX0, o ∈ L) (hE : gEok ad L E)  (h : f_X10_spread L mem p0 p1 p2 p3 = some memz) : gMet l yX10_spread cX10_spread 8 none 2 45 E D cy shX ad L [.ref (ad 32), .int p0, .int p1, .int p2, .int p3] mem memz none := by
  refine g_go (own := RX10) (by decide +kernel) rfl hE (Nat.le_of_ble_eq_true rfl) ?_
  intro p e s m args below meth c R Q hargs hR hQ hEs hC hr hX H locs ls hH hl
  have hF := gF_of hk
  have hl : lv_has ls 8 [(0, .ref (ad 32)), (1, .int p0), (2, .int p1), (3, .int p2), (4, .int p3)] := hl
  refine lv_aload_n hC.x hC.b dX10_spread_0 rfl (lv_at hl 0 rfl) ?_
  refine lv_iload_n hC.x hC.b dX10_spread_1 rfl (lv_at hl 1 rfl) ?_
  refine lv_iload_n hC.x hC.b dX10_spread_2 rfl (lv_at hl 2 rfl) ?_
  obtain ⟨x1, hf1, h⟩ := bd_e h
  refine c_V1 (As := [.int p0, .int p1]) (rest := []) (o := 32) (q := (RX10, TX10, 10)) hC hX hE.2.1 hF hH (c_X10_leastAt (l := l) hk hL hE hf1) kw849 kw850 kw851 kw28 kw852 a_X10_leastAt.1 a_X10_leastAt.2 (hL _ mX32) sX32 rfl rfl hl.1 (rmk hR (by decide) (by decide)) (Nat.le_of_ble_eq_true rfl) dX10_spread_3 (fun H locs hH => ?_)
  refine lv_istore (lv' := [(5, .int x1), (0, .ref (ad 32)), (1, .int p0), (2, .int p1), (3, .int p2), (4, .int p3)]) hC.x hC.b dX10_spread_6 hl (by decide) rfl (fun ls hl => ?_)
  refine lv_iload hC.x hC.b dX10_spread_8 (lv_at hl 0 rfl) ?_
  refine lv_iconst (v := 3) hC.x hC.b dX10_spread_10 rfl ?_
  refine b_ic_lt (tgt := 15) hC dX10_spread_11 (by decide) h (fun h => ?_) (fun h => ?_)
  · refine lv_aload_n hC.x hC.b dX10_spread_15 rfl (lv_at hl 1 rfl) ?_
    refine lv_iload_n hC.x hC.b dX10_spread_16 rfl (lv_at hl 2 rfl) ?_
    refine lv_iconst (v := 1) hC.x hC.b dX10_spread_17 rfl ?_
    refine lv_iadd hC.x hC.b dX10_spread_18 ?_
    refine lv_iload_n hC.x hC.b dX10_spread_19 rfl (lv_at hl 3 rfl) ?_
    refine lv_iconst (v := 0) hC.x hC.b dX10_spread_20 rfl ?_
    refine lv_iload hC.x hC.b dX10_spread_21 (lv_at hl 0 rfl) ?_
    refine lv_iconst (v := 1) hC.x hC.b dX10_spread_23 rfl ?_
    refine lv_isub hC.x hC.b dX10_spread_24 ?_
    refine m_max hC hl.1 kw827 kw309 kw310 kw311 (rmM hR (by decide) (Nat.le_of_ble_eq_true rfl)) dX10_spread_25 ?_
    obtain ⟨m2, hf2, h⟩ := bd_e h
    refine c_V0 (As := [.int (p0 + (1 : Int32)), .int p1, .int (if (0 : Int32) < (x1 - (1 : Int32)) then (x1 - (1 : Int32)) else (0 : Int32))]) (rest := []) (o := 32) (q := (RX10, TX10, 10)) hC hX hE.2.1 hF hH (c_X10_lower (l := l) hk hL hE hf2) kw857 kw858 kw859 kw28 kw860 a_X10_lower.1 a_X10_lower.2 (hL _ mX32) sX32 rfl rfl hl.1 (rmk hR (by decide) (by decide)) (Nat.le_of_ble_eq_true rfl) dX10_spread_28 (fun H locs hH => ?_)
    refine lv_iconst (v := 0) hC.x hC.b dX10_spread_31 rfl ?_
    refine lv_istore (lv' := [(6, .int (0 : Int32)), (5, .int x1), (0, .ref (ad 32)), (1, .int p0), (2, .int p1), (3, .int p2), (4, .int p3)]) hC.x hC.b dX10_spread_32 hl (by decide) rfl (fun ls hl => ?_)
    have hl3 : ∀ (n : Nat) (x4 : Int32) (m5 : gMem) (H : Heap) (locs : List Loc) (ls : Array Slot), lq2 (s_X10_spread_34 p1 L p2 p3 x1 p0) n x4 m5 = some memz → gH D cy shX ad L (gA ad L) s.heap m5 H locs → lv_has ls 8 [(0, .ref (ad 32)), (1, .int p0), (2, .int p1), (3, .int p2), (4, .int p3), (5, .int x1), (6, .int x4)] → W p l e R s m args below meth c H locs 0 0 Q (F0 m 34 ls []) := by
      intro n
      induction n with
      | zero => intro x4 m5 H locs ls h _ _; exact lq2_0 h
      | succ n ih3 =>
        intro x4 m5 H locs ls h hH hl
        obtain ⟨self3, es3, h⟩ := lq2_s h
        refine lv_iload hC.x hC.b dX10_spread_34 (lv_at hl 6 rfl) ?_
        refine lv_iconst (v := 3) hC.x hC.b dX10_spread_36 rfl ?_
        refine b_ic_ge (tgt := 88) hC dX10_spread_37 (by decide) h (fun h => ?_) (fun h => ?_)
        · rw [hQ]
          exact e_v hC hr hH h dX10_spread_88
        · refine lv_iload_n hC.x hC.b dX10_spread_40 rfl (lv_at hl 2 rfl) ?_
          refine lv_iload hC.x hC.b dX10_spread_41 (lv_at hl 6 rfl) ?_
          obtain ⟨x6, hf6, h⟩ := bd_e h
          refine c_SN1 (As := [.int p1, .int x4]) (rest := []) (host := RX11) hC hX hE.2.1 hF hH (c_X11_boardBeside (l := l) hk hL hE hf6) ((hE.2.2 _ hEs).1 (RX10, 108, yX11_boardBeside, RX11) (by decide)) kw723 kw2 kw724 a_X11_boardBeside.1 a_X11_boardBeside.2 rfl hl.1 (rmk hR (by decide) (by decide)) (Nat.le_of_ble_eq_true rfl) dX10_spread_43 (fun H locs hH => ?_)
          refine lv_istore (lv' := [(7, .int x6), (0, .ref (ad 32)), (1, .int p0), (2, .int p1), (3, .int p2), (4, .int p3), (5, .int x1), (6, .int x4)]) hC.x hC.b dX10_spread_46 hl (by decide) rfl (fun ls hl => ?_)
          refine lv_iload hC.x hC.b dX10_spread_48 (lv_at hl 0 rfl) ?_
          obtain ⟨x7, hf7, h⟩ := bd_e h
          refine c_SN1 (As := [.int x6]) (rest := []) (host := RX11) hC hX hE.2.1 hF hH (c_X11_isBoard (l := l) hk hL hE hf7) ((hE.2.2 _ hEs).1 (RX10, 49, yX11_isBoard, RX11) (by decide)) kw157 kw2 kw158 a_X11_isBoard.1 a_X11_isBoard.2 rfl hl.1 (rmk hR (by decide) (by decide)) (Nat.le_of_ble_eq_true rfl) dX10_spread_50 (fun H locs hH => ?_)
          obtain ⟨j8, ej8, h⟩ := jn_e h
          have hj8 : ∀ (m12 : gMem) (H : Heap) (locs : List Loc) (ls : Array Slot), (j8 m12) = some memz → gH D cy shX ad L (gA ad L) s.heap m12 H locs → lv_has ls 8 [(0, .ref (ad 32)), (1, .int p0), (2, .int p1), (3, .int p2), (4, .int p3), (5, .int x1), (6, .int x4)] → W p l e R s m args below meth c H locs 0 0 Q (F0 m 82 ls []) := by
            intro m12 H locs ls h hH hl
            have h := ap1 ej8 h
            refine i_inc (lv' := fun x13 => [(6, .int x13), (0, .ref (ad 32)), (1, .int p0), (2, .int p1), (3, .int p2), (4, .int p3), (5, .int x1)]) hC dX10_spread_82 hl (k := 6) rfl (by decide) (fun _ => rfl) (z := 1) rfl h (fun x13 ls h hl => ?_)
            refine lv_goto (tgt := 34) hC.x hC.b dX10_spread_85 (by decide) ?_
            exact ih3 x13 m12 H locs ls (ap2 es3 h) hH (lv_sub hl [1, 2, 3, 4, 5, 6, 0] rfl)
          clear ej8
          refine b_if_eq (tgt := 82) hC dX10_spread_53 (by decide) h (fun h => ?_) (fun h => ?_)
          · exact hj8 m5 H locs ls h hH (lv_sub hl [1, 2, 3, 4, 5, 6, 7] rfl)
          · refine lv_aload_n hC.x hC.b dX10_spread_56 rfl (lv_at hl 1 rfl) ?_
            refine lv_iload_n hC.x hC.b dX10_spread_57 rfl (lv_at hl 2 rfl) ?_
            refine lv_aload_n hC.x hC.b dX10_spread_58 rfl (lv_at hl 1 rfl) ?_
            refine r_geti hC hH fl_X10_27_10 (hL _ mX32) sX32 rfl dX10_spread_59 ?_
            refine lv_iadd hC.x hC.b dX10_spread_62 ?_
            refine lv_iload hC.x hC.b dX10_spread_63 (lv_at hl 0 rfl) ?_
            refine lv_aload_n hC.x hC.b dX10_spread_65 rfl (lv_at hl 1 rfl) ?_
            refine lv_iload hC.x hC.b dX10_spread_66 (lv_at hl 0 rfl) ?_
            refine lv_iload_n hC.x hC.b dX10_spread_68 rfl (lv_at hl 4 rfl) ?_
            obtain ⟨x9, hf9, h⟩ := bd_e h
            refine c_V1 (As := [.int x6, .int p2]) (rest := [.int x6, .int (p0 + (gI m5 32 2)), .ref (ad 32)]) (o := 32) (q := (RX10, TX10, 10)) hC hX hE.2.1 hF hH (c_X10_noiseAt (l := l) hk hL hE hf9) kw828 kw829 kw830 kw28 kw831 a_X10_noiseAt.1 a_X10_noiseAt.2 (hL _ mX32) sX32 rfl rfl hl.1 (rmk hR (by decide) (by decide)) (Nat.le_of_ble_eq_true rfl) dX10_spread_69 (fun H locs hH => ?_)
            refine lv_iload hC.x hC.b dX10_spread_72 (lv_at hl 5 rfl) ?_
            refine lv_iload hC.x hC.b dX10_spread_74 (lv_at hl 6 rfl) ?_
            obtain ⟨x10, hf10, h⟩ := bd_e h
            refine c_SN1 (As := [.int x9, .int p3, .int x1]) (rest := [.int x6, .int (p0 + (gI m5 32 2)), .ref (ad 32)]) (host := RX11) hC hX hE.2.1 hF hH (c_X11_stirsBehind (l := l) hk hL hE hf10) ((hE.2.2 _ hEs).1 (RX10, 93, yX11_stirsBehind, RX11) (by decide)) kw741 kw2 kw742 a_X11_stirsBehind.1 a_X11_stirsBehind.2 rfl hl.1 (rmk hR (by decide) (by decide)) (Nat.le_of_ble_eq_true rfl) dX10_spread_76 (fun H locs hH => ?_)
            obtain ⟨m11, hf11, h⟩ := bd_e h
            refine c_V0 (As := [.int (p0 + (gI m5 32 2)), .int x6, .int x10]) (rest := []) (o := 32) (q := (RX10, TX10, 10)) hC hX hE.2.1 hF hH (c_X10_lower (l := l) hk hL hE hf11) kw857 kw858 kw859 kw28 kw860 a_X10_lower.1 a_X10_lower.2 (hL _ mX32) sX32 rfl rfl hl.1 (rmk hR (by decide) (by decide)) (Nat.le_of_ble_eq_true rfl) dX10_spread_79 (fun H locs hH => ?_)
            exact hj8 m11 H locs ls h hH (lv_sub hl [1, 2, 3, 4, 5, 6, 7] rfl)
    exact hl3 _ (0 : Int32) m2 H locs ls h hH (lv_sub hl [2, 3, 4, 5, 6, 1, 0] rfl)
  · rw [hQ]
    exact e_v hC hr hH h dX10_spread_14
theorem fl_X10_35_10 : gFl RX10 35 10 3 := ⟨RX10, TX10, 10, "OnTiptoe$Ways", rfl, inW10, by decide, kw803, Or.inl rfl⟩
theorem a_X10_seekBeside : noMH yX10_seekBeside.cls ∧ arity yX10_seekBeside.desc 5 := by decide +kernel
theorem fl_X10_112_10 : gFl RX10 112 10 8 := ⟨RX10, TX10, 10, "OnTiptoe$Ways", rfl, inW10, by decide, kw892, Or.inl rfl⟩
theorem fl_X10_115_10 : gFl RX10 115 10 9 := ⟨RX10, TX10, 10, "OnTiptoe$Ways", rfl, inW10, by decide, kw893, Or.inl rfl⟩
theorem pl_X10_112_10 : gPl RX10 112 10 8 "I" := ⟨RX10, TX10, 10, tyX10, "OnTiptoe$Ways", rfl, inW10, tyX10_ok, nmX10, by decide, kw892, Or.inl rfl, rfl, rfl⟩
theorem pl_X10_115_10 : gPl RX10 115 10 9 "I" := ⟨RX10, TX10, 10, tyX10, "OnTiptoe$Ways", rfl, inW10, tyX10_ok, nmX10, by decide, kw893, Or.inl rfl, rfl, rfl⟩
theorem a_X10_seekAt : noMH yX10_seekAt.cls ∧ arity yX10_seekAt.desc 5 := by decide +kernel
def b_X10_seekAt (L : List Nat) (rec : Nat → gMem → Int32 → Int32 → Int32 → Int32 → Int32 → Option gMem) (mem : gMem) (p0 : Int32) (p1 : Int32) (p2 : Int32) (p3 : Int32) (p4 : Int32) : Option gMem := if p0 = (gI mem 32 3) then (jn ((lt1 (gsI mem 32 8 p4) fun (m3 : gMem) => lt1 (gsI m3 32 9 p3) fun (m4 : gMem) => some m4) : Option gMem) fun j2 => if p4 < (gI mem 32 8) then (j2) else if p4 = (gI mem 32 8) then (if (gI mem 32 9) ≤ p3 then (some mem) else j2) else some mem) else if (8 : Int32) ≤ p3 then (some mem) else bd (rec 1 mem p0 (p1 + (gI mem 32 2)) p2 (p3 + (1 : Int32)) p4) fun (m1 : gMem) => some m1
set_option maxRecDepth 100000 in
set_option maxHeartbeats 4000000 in
theorem cb_X10_seekAt {l : Launch} {E : State → Prop} {D : va_G} {cy : Nat → ClassId} {ad : Nat → Nat} {L : List Nat} {rec : Nat → gMem → Int32 → Int32 → Int32 → Int32 → Int32 → Option gMem} {frr lor : Nat} {mem : gMem} {p0 : Int32} {p1 : Int32} {p2 : Int32} {p3 : Int32} {p4 : Int32} {memz : gMem} (hk : gOk ad L) (hL : ∀ o ∈ LX0, o ∈ L) (hE : gEok ad L E) (hrec0 : ∀ (mem : gMem) (p0 p1 p2 p3 p4 : Int32) (memz : gMem), rec 0 mem p0 p1 p2 p3 p4 = some memz → gMet l yX10_seekAt cX10_seekAt 6 none frr lor E D cy shX ad L [.ref (ad 32), .int p0, .int p1, .int p2, .int p3, .int p4] mem memz none) (hrec1 : ∀ (mem : gMem) (p0 p1 p2 p3 p4 : Int32) (memz : gMem), rec 1 mem p0 p1 p2 p3 p4 = some memz → gMet l yX10_seekBeside cX10_seekBeside 8 none frr lor E D cy shX ad L [.ref (ad 32), .int p0, .int p1, .int p2, .int p3, .int p4] mem memz none) (h : b_X10_seekAt L rec mem p0 p1 p2 p3 p4 = some memz) : gMet l yX10_seekAt cX10_seekAt 6 none (frr + 8) (lor + 160) E D cy shX ad L [.ref (ad 32), .int p0, .int p1, .int p2, .int p3, .int p4] mem memz none := by
  refine g_go (own := RX10) (by decide +kernel) rfl hE (Nat.le_of_ble_eq_true rfl) ?_
  intro p e s m args below meth c R Q hargs hR hQ hEs hC hr hX H locs ls hH hl
  have hF := gF_of hk
  have hl : lv_has ls 6 [(0, .ref (ad 32)), (1, .int p0), (2, .int p1), (3, .int p2), (4, .int p3), (5, .int p4)] := hl
  refine lv_iload_n hC.x hC.b dX10_seekAt_0 rfl (lv_at hl 1 rfl) ?_
  refine lv_aload_n hC.x hC.b dX10_seekAt_1 rfl (lv_at hl 0 rfl) ?_
  refine r_geti hC hH fl_X10_35_10 (hL _ mX32) sX32 rfl dX10_seekAt_2 ?_
  refine b_ic_ne (tgt := 50) hC dX10_seekAt_5 (by decide) h (fun h => ?_) (fun h => ?_)
  · refine lv_iload hC.x hC.b dX10_seekAt_50 (lv_at hl 4 rfl) ?_
    refine lv_bipush (v := 8) hC.x hC.b dX10_seekAt_52 rfl ?_
    refine b_ic_ge (tgt := 75) hC dX10_seekAt_54 (by decide) h (fun h => ?_) (fun h => ?_)
    · rw [hQ]
      exact e_v hC hr hH h dX10_seekAt_75
    · refine lv_aload_n hC.x hC.b dX10_seekAt_57 rfl (lv_at hl 0 rfl) ?_
      refine lv_iload_n hC.x hC.b dX10_seekAt_58 rfl (lv_at hl 1 rfl) ?_
      refine lv_iload_n hC.x hC.b dX10_seekAt_59 rfl (lv_at hl 2 rfl) ?_
      refine lv_aload_n hC.x hC.b dX10_seekAt_60 rfl (lv_at hl 0 rfl) ?_
      refine r_geti hC hH fl_X10_27_10 (hL _ mX32) sX32 rfl dX10_seekAt_61 ?_
      refine lv_iadd hC.x hC.b dX10_seekAt_64 ?_
      refine lv_iload_n hC.x hC.b dX10_seekAt_65 rfl (lv_at hl 3 rfl) ?_
      refine lv_iload hC.x hC.b dX10_seekAt_66 (lv_at hl 4 rfl) ?_
      refine lv_iconst (v := 1) hC.x hC.b dX10_seekAt_68 rfl ?_
      refine lv_iadd hC.x hC.b dX10_seekAt_69 ?_
      refine lv_iload hC.x hC.b dX10_seekAt_70 (lv_at hl 5 rfl) ?_
      obtain ⟨m1, hf1, h⟩ := bd_e h
      refine c_V0 (As := [.int p0, .int (p1 + (gI mem 32 2)), .int p2, .int (p3 + (1 : Int32)), .int p4]) (rest := []) (o := 32) (q := (RX10, TX10, 10)) hC hX hE.2.1 hF hH (hrec1 _ _ _ _ _ _ _ hf1) kw898 kw899 kw900 kw28 kw901 a_X10_seekBeside.1 a_X10_seekBeside.2 (hL _ mX32) sX32 rfl rfl hl.1 (rmk hR (by omega) (by omega)) (Nat.le_of_ble_eq_true rfl) dX10_seekAt_72 (fun H locs hH => ?_)
      rw [hQ]
      exact e_v hC hr hH h dX10_seekAt_75
  · refine lv_iload hC.x hC.b dX10_seekAt_8 (lv_at hl 5 rfl) ?_
    refine lv_aload_n hC.x hC.b dX10_seekAt_10 rfl (lv_at hl 0 rfl) ?_
    refine r_geti hC hH fl_X10_112_10 (hL _ mX32) sX32 rfl dX10_seekAt_11 ?_
    obtain ⟨j2, ej2, h⟩ := jn_e h
    have hj2 : ∀  (H : Heap) (locs : List Loc) (ls : Array Slot), j2 = some memz → gH D cy shX ad L (gA ad L) s.heap mem H locs → lv_has ls 6 [(0, .ref (ad 32)), (4, .int p3), (5, .int p4)] → W p l e R s m args below meth c H locs 0 0 Q (F0 m 35 ls []) := by
      intro H locs ls h hH hl
      have h := ap0 ej2 h
      refine lv_aload_n hC.x hC.b dX10_seekAt_35 rfl (lv_at hl 0 rfl) ?_
      refine lv_iload hC.x hC.b dX10_seekAt_36 (lv_at hl 2 rfl) ?_
      refine r_puti hC hF hH pl_X10_112_10 (hL _ mX32) sX32 rfl h dX10_seekAt_38 (fun m3 H locs h hH => ?_)
      refine lv_aload_n hC.x hC.b dX10_seekAt_41 rfl (lv_at hl 0 rfl) ?_
      refine lv_iload hC.x hC.b dX10_seekAt_42 (lv_at hl 1 rfl) ?_
      refine r_puti hC hF hH pl_X10_115_10 (hL _ mX32) sX32 rfl h dX10_seekAt_44 (fun m4 H locs h hH => ?_)
      refine lv_goto (tgt := 75) hC.x hC.b dX10_seekAt_47 (by decide) ?_
      rw [hQ]
      exact e_v hC hr hH h dX10_seekAt_75
    clear ej2
    refine b_ic_lt (tgt := 35) hC dX10_seekAt_14 (by decide) h (fun h => ?_) (fun h => ?_)
    · exact hj2  H locs ls h hH (lv_sub hl [0, 4, 5] rfl)
    · refine lv_iload hC.x hC.b dX10_seekAt_17 (lv_at hl 5 rfl) ?_
      refine lv_aload_n hC.x hC.b dX10_seekAt_19 rfl (lv_at hl 0 rfl) ?_
      refine r_geti hC hH fl_X10_112_10 (hL _ mX32) sX32 rfl dX10_seekAt_20 ?_
      refine b_ic_ne (tgt := 75) hC dX10_seekAt_23 (by decide) h (fun h => ?_) (fun h => ?_)
      · rw [hQ]
        exact e_v hC hr hH h dX10_seekAt_75
      · refine lv_iload hC.x hC.b dX10_seekAt_26 (lv_at hl 4 rfl) ?_
        refine lv_aload_n hC.x hC.b dX10_seekAt_28 rfl (lv_at hl 0 rfl) ?_
        refine r_geti hC hH fl_X10_115_10 (hL _ mX32) sX32 rfl dX10_seekAt_29 ?_
        refine b_ic_ge (tgt := 75) hC dX10_seekAt_32 (by decide) h (fun h => ?_) (fun h => ?_)
        · rw [hQ]
          exact e_v hC hr hH h dX10_seekAt_75
        · exact hj2  H locs ls h hH (lv_sub hl [0, 4, 5] rfl)
def s_X10_seekBeside_3 (p0 : Int32) (p2 : Int32) (L : List Nat) (p1 : Int32) (rec : Nat → gMem → Int32 → Int32 → Int32 → Int32 → Int32 → Option gMem) (p3 : Int32) (p4 : Int32) (self1 : Int32 → gMem → Option gMem) (x2 : Int32) (m3 : gMem) : Option gMem := if (3 : Int32) ≤ x2 then (some m3) else bd (f_X11_boardBeside p0 x2) fun (x4 : Int32) => bd (f_X11_isBoard x4) fun (x5 : Int32) => jn ((fun (m9 : gMem) => lt1 (x2 + (1 : Int32)) fun (x10 : Int32) => (self1 x10 m9)) : gMem → Option gMem) fun j6 => if x5 = 0 then ((j6 m3)) else if ((p2 >>> (x4 &&& 31)) &&& (1 : Int32)) = 0 then (bd (f_X10_noiseAt L m3 x4 p1) fun (x7 : Int32) => bd (rec 0 m3 x4 p1 (p2 ||| ((1 : Int32) <<< (x4 &&& 31))) p3 (p4 + x7)) fun (m8 : gMem) => (j6 m8)) else (j6 m3)
def b_X10_seekBeside (L : List Nat) (rec : Nat → gMem → Int32 → Int32 → Int32 → Int32 → Int32 → Option gMem) (mem : gMem) (p0 : Int32) (p1 : Int32) (p2 : Int32) (p3 : Int32) (p4 : Int32) : Option gMem := lq2 (s_X10_seekBeside_3 p0 p2 L p1 rec p3 p4) 1000 (0 : Int32) mem
set_option maxRecDepth 100000 in
set_option maxHeartbeats 4000000 in
theorem cb_X10_seekBeside {l : Launch} {E : State → Prop} {D : va_G} {cy : Nat → ClassId} {ad : Nat → Nat} {L : List Nat} {rec : Nat → gMem → Int32 → Int32 → Int32 → Int32 → Int32 → Option gMem} {frr lor : Nat} {mem : gMem} {p0 : Int32} {p1 : Int32} {p2 : Int32} {p3 : Int32} {p4 : Int32} {memz : gMem} (hk : gOk ad L) (hL : ∀ o ∈ LX0, o ∈ L) (hE : gEok ad L E) (hrec0 : ∀ (mem : gMem) (p0 p1 p2 p3 p4 : Int32) (memz : gMem), rec 0 mem p0 p1 p2 p3 p4 = some memz → gMet l yX10_seekAt cX10_seekAt 6 none frr lor E D cy shX ad L [.ref (ad 32), .int p0, .int p1, .int p2, .int p3, .int p4] mem memz none) (hrec1 : ∀ (mem : gMem) (p0 p1 p2 p3 p4 : Int32) (memz : gMem), rec 1 mem p0 p1 p2 p3 p4 = some memz → gMet l yX10_seekBeside cX10_seekBeside 8 none frr lor E D cy shX ad L [.ref (ad 32), .int p0, .int p1, .int p2, .int p3, .int p4] mem memz none) (h : b_X10_seekBeside L rec mem p0 p1 p2 p3 p4 = some memz) : gMet l yX10_seekBeside cX10_seekBeside 8 none (frr + 8) (lor + 160) E D cy shX ad L [.ref (ad 32), .int p0, .int p1, .int p2, .int p3, .int p4] mem memz none := by
  refine g_go (own := RX10) (by decide +kernel) rfl hE (Nat.le_of_ble_eq_true rfl) ?_
  intro p e s m args below meth c R Q hargs hR hQ hEs hC hr hX H locs ls hH hl
  have hF := gF_of hk
  have hl : lv_has ls 8 [(0, .ref (ad 32)), (1, .int p0), (2, .int p1), (3, .int p2), (4, .int p3), (5, .int p4)] := hl
  refine lv_iconst (v := 0) hC.x hC.b dX10_seekBeside_0 rfl ?_
  refine lv_istore (lv' := [(6, .int (0 : Int32)), (0, .ref (ad 32)), (1, .int p0), (2, .int p1), (3, .int p2), (4, .int p3), (5, .int p4)]) hC.x hC.b dX10_seekBeside_1 hl (by decide) rfl (fun ls hl => ?_)
  have hl1 : ∀ (n : Nat) (x2 : Int32) (m3 : gMem) (H : Heap) (locs : List Loc) (ls : Array Slot), lq2 (s_X10_seekBeside_3 p0 p2 L p1 rec p3 p4) n x2 m3 = some memz → gH D cy shX ad L (gA ad L) s.heap m3 H locs → lv_has ls 8 [(0, .ref (ad 32)), (1, .int p0), (2, .int p1), (3, .int p2), (4, .int p3), (5, .int p4), (6, .int x2)] → W p l e R s m args below meth c H locs 0 0 Q (F0 m 3 ls []) := by
    intro n
    induction n with
    | zero => intro x2 m3 H locs ls h _ _; exact lq2_0 h
    | succ n ih1 =>
      intro x2 m3 H locs ls h hH hl
      obtain ⟨self1, es1, h⟩ := lq2_s h
      refine lv_iload hC.x hC.b dX10_seekBeside_3 (lv_at hl 6 rfl) ?_
      refine lv_iconst (v := 3) hC.x hC.b dX10_seekBeside_5 rfl ?_
      refine b_ic_ge (tgt := 65) hC dX10_seekBeside_6 (by decide) h (fun h => ?_) (fun h => ?_)
      · rw [hQ]
        exact e_v hC hr hH h dX10_seekBeside_65
      · refine lv_iload_n hC.x hC.b dX10_seekBeside_9 rfl (lv_at hl 1 rfl) ?_
        refine lv_iload hC.x hC.b dX10_seekBeside_10 (lv_at hl 6 rfl) ?_
        obtain ⟨x4, hf4, h⟩ := bd_e h
        refine c_SN1 (As := [.int p0, .int x2]) (rest := []) (host := RX11) hC hX hE.2.1 hF hH (c_X11_boardBeside (l := l) hk hL hE hf4) ((hE.2.2 _ hEs).1 (RX10, 108, yX11_boardBeside, RX11) (by decide)) kw723 kw2 kw724 a_X11_boardBeside.1 a_X11_boardBeside.2 rfl hl.1 (rmk hR (by omega) (by omega)) (Nat.le_of_ble_eq_true rfl) dX10_seekBeside_12 (fun H locs hH => ?_)
        refine lv_istore (lv' := [(7, .int x4), (0, .ref (ad 32)), (1, .int p0), (2, .int p1), (3, .int p2), (4, .int p3), (5, .int p4), (6, .int x2)]) hC.x hC.b dX10_seekBeside_15 hl (by decide) rfl (fun ls hl => ?_)
        refine lv_iload hC.x hC.b dX10_seekBeside_17 (lv_at hl 0 rfl) ?_
        obtain ⟨x5, hf5, h⟩ := bd_e h
        refine c_SN1 (As := [.int x4]) (rest := []) (host := RX11) hC hX hE.2.1 hF hH (c_X11_isBoard (l := l) hk hL hE hf5) ((hE.2.2 _ hEs).1 (RX10, 49, yX11_isBoard, RX11) (by decide)) kw157 kw2 kw158 a_X11_isBoard.1 a_X11_isBoard.2 rfl hl.1 (rmk hR (by omega) (by omega)) (Nat.le_of_ble_eq_true rfl) dX10_seekBeside_19 (fun H locs hH => ?_)
        obtain ⟨j6, ej6, h⟩ := jn_e h
        have hj6 : ∀ (m9 : gMem) (H : Heap) (locs : List Loc) (ls : Array Slot), (j6 m9) = some memz → gH D cy shX ad L (gA ad L) s.heap m9 H locs → lv_has ls 8 [(0, .ref (ad 32)), (1, .int p0), (2, .int p1), (3, .int p2), (4, .int p3), (5, .int p4), (6, .int x2)] → W p l e R s m args below meth c H locs 0 0 Q (F0 m 59 ls []) := by
          intro m9 H locs ls h hH hl
          have h := ap1 ej6 h
          refine i_inc (lv' := fun x10 => [(6, .int x10), (0, .ref (ad 32)), (1, .int p0), (2, .int p1), (3, .int p2), (4, .int p3), (5, .int p4)]) hC dX10_seekBeside_59 hl (k := 6) rfl (by decide) (fun _ => rfl) (z := 1) rfl h (fun x10 ls h hl => ?_)
          refine lv_goto (tgt := 3) hC.x hC.b dX10_seekBeside_62 (by decide) ?_
          exact ih1 x10 m9 H locs ls (ap2 es1 h) hH (lv_sub hl [1, 2, 3, 4, 5, 6, 0] rfl)
        clear ej6
        refine b_if_eq (tgt := 59) hC dX10_seekBeside_22 (by decide) h (fun h => ?_) (fun h => ?_)
        · exact hj6 m3 H locs ls h hH (lv_sub hl [1, 2, 3, 4, 5, 6, 7] rfl)
        · refine lv_iload_n hC.x hC.b dX10_seekBeside_25 rfl (lv_at hl 4 rfl) ?_
          refine lv_iload hC.x hC.b dX10_seekBeside_26 (lv_at hl 0 rfl) ?_
          refine lv_ishr hC.x hC.b dX10_seekBeside_28 ?_
          refine lv_iconst (v := 1) hC.x hC.b dX10_seekBeside_29 rfl ?_
          refine lv_iand hC.x hC.b dX10_seekBeside_30 ?_
          refine b_if_ne (tgt := 59) hC dX10_seekBeside_31 (by decide) h (fun h => ?_) (fun h => ?_)
          · exact hj6 m3 H locs ls h hH (lv_sub hl [1, 2, 3, 4, 5, 6, 7] rfl)
          · refine lv_aload_n hC.x hC.b dX10_seekBeside_34 rfl (lv_at hl 1 rfl) ?_
            refine lv_iload hC.x hC.b dX10_seekBeside_35 (lv_at hl 0 rfl) ?_
            refine lv_iload_n hC.x hC.b dX10_seekBeside_37 rfl (lv_at hl 3 rfl) ?_
            refine lv_iload_n hC.x hC.b dX10_seekBeside_38 rfl (lv_at hl 4 rfl) ?_
            refine lv_iconst (v := 1) hC.x hC.b dX10_seekBeside_39 rfl ?_
            refine lv_iload hC.x hC.b dX10_seekBeside_40 (lv_at hl 0 rfl) ?_
            refine lv_ishl hC.x hC.b dX10_seekBeside_42 ?_
            refine lv_ior hC.x hC.b dX10_seekBeside_43 ?_
            refine lv_iload hC.x hC.b dX10_seekBeside_44 (lv_at hl 5 rfl) ?_
            refine lv_iload hC.x hC.b dX10_seekBeside_46 (lv_at hl 6 rfl) ?_
            refine lv_aload_n hC.x hC.b dX10_seekBeside_48 rfl (lv_at hl 1 rfl) ?_
            refine lv_iload hC.x hC.b dX10_seekBeside_49 (lv_at hl 0 rfl) ?_
            refine lv_iload_n hC.x hC.b dX10_seekBeside_51 rfl (lv_at hl 3 rfl) ?_
            obtain ⟨x7, hf7, h⟩ := bd_e h
            refine c_V1 (As := [.int x4, .int p1]) (rest := [.int p4, .int p3, .int (p2 ||| ((1 : Int32) <<< (x4 &&& 31))), .int p1, .int x4, .ref (ad 32)]) (o := 32) (q := (RX10, TX10, 10)) hC hX hE.2.1 hF hH (c_X10_noiseAt (l := l) hk hL hE hf7) kw828 kw829 kw830 kw28 kw831 a_X10_noiseAt.1 a_X10_noiseAt.2 (hL _ mX32) sX32 rfl rfl hl.1 (rmk hR (by omega) (by omega)) (Nat.le_of_ble_eq_true rfl) dX10_seekBeside_52 (fun H locs hH => ?_)
            refine lv_iadd hC.x hC.b dX10_seekBeside_55 ?_
            obtain ⟨m8, hf8, h⟩ := bd_e h
            refine c_V0 (As := [.int x4, .int p1, .int (p2 ||| ((1 : Int32) <<< (x4 &&& 31))), .int p3, .int (p4 + x7)]) (rest := []) (o := 32) (q := (RX10, TX10, 10)) hC hX hE.2.1 hF hH (hrec0 _ _ _ _ _ _ _ hf8) kw894 kw895 kw896 kw28 kw897 a_X10_seekAt.1 a_X10_seekAt.2 (hL _ mX32) sX32 rfl rfl hl.1 (rmk hR (by omega) (by omega)) (Nat.le_of_ble_eq_true rfl) dX10_seekBeside_56 (fun H locs hH => ?_)
            exact hj6 m8 H locs ls h hH (lv_sub hl [1, 2, 3, 4, 5, 6, 7] rfl)
  exact hl1 _ (0 : Int32) mem H locs ls h hH (lv_sub hl [1, 2, 3, 4, 5, 6, 0] rfl)
def f_K (L : List Nat) : Nat → Nat → gMem → Int32 → Int32 → Int32 → Int32 → Int32 → Option gMem
  | 0, _, _, _, _, _, _, _ => none
  | n + 1, k, mem, p0, p1, p2, p3, p4 => if k = 0 then b_X10_seekAt L (f_K L n) mem p0 p1 p2 p3 p4 else b_X10_seekBeside L (f_K L n) mem p0 p1 p2 p3 p4
theorem c_K {l : Launch} {E : State → Prop} {D : va_G} {cy : Nat → ClassId} {ad : Nat → Nat} {L : List Nat} (hk : gOk ad L) (hL : ∀ o ∈ LX0, o ∈ L) (hE : gEok ad L E) : ∀ (n k : Nat) (mem : gMem) (p0 p1 p2 p3 p4 : Int32) (memz : gMem), f_K L n k mem p0 p1 p2 p3 p4 = some memz → (k = 0 → gMet l yX10_seekAt cX10_seekAt 6 none (8 * n) (160 * n) E D cy shX ad L [.ref (ad 32), .int p0, .int p1, .int p2, .int p3, .int p4] mem memz none) ∧ (k = 1 → gMet l yX10_seekBeside cX10_seekBeside 8 none (8 * n) (160 * n) E D cy shX ad L [.ref (ad 32), .int p0, .int p1, .int p2, .int p3, .int p4] mem memz none) := by
  intro n
  induction n with
  | zero => intro k mem p0 p1 p2 p3 p4 memz h; cases h
  | succ n ih =>
    intro k mem p0 p1 p2 p3 p4 memz h
    have h0 := fun mem p0 p1 p2 p3 p4 memz h => (ih 0 mem p0 p1 p2 p3 p4 memz h).1 rfl
    have h1 := fun mem p0 p1 p2 p3 p4 memz h => (ih 1 mem p0 p1 p2 p3 p4 memz h).2 rfl
    refine ⟨fun e => ?_, fun e => ?_⟩
    · subst e; exact cb_X10_seekAt (l := l) hk hL hE h0 h1 h
    · subst e; exact cb_X10_seekBeside (l := l) hk hL hE h0 h1 h
def f_X10_seekAt (L : List Nat) (mem : gMem) (p0 p1 p2 p3 p4 : Int32) : Option gMem := f_K L 24 0 mem p0 p1 p2 p3 p4
theorem c_X10_seekAt {l : Launch} {E : State → Prop} {D : va_G} {cy : Nat → ClassId} {ad : Nat → Nat} {L : List Nat} {mem : gMem} {p0 p1 p2 p3 p4 : Int32} {memz : gMem} (hk : gOk ad L) (hL : ∀ o ∈ LX0, o ∈ L) (hE : gEok ad L E) (h : f_X10_seekAt L mem p0 p1 p2 p3 p4 = some memz) : gMet l yX10_seekAt cX10_seekAt 6 none 192 3840 E D cy shX ad L [.ref (ad 32), .int p0, .int p1, .int p2, .int p3, .int p4] mem memz none := (c_K (l := l) hk hL hE 24 0 mem p0 p1 p2 p3 p4 memz h).1 rfl
theorem a_J1_charAt_3b067 : noMH yJ1_charAt_3b067.cls ∧ arity yJ1_charAt_3b067.desc 2 := by decide +kernel
def f_J0_charAt_5068e (i0 : Nat) (p0 : Int32) : Option Int32 := bd (f_J0_isLatin1_aae02 i0) fun (x1 : Int32) => bd (f_J1_charAt_3b067 i0 p0) fun (x2 : Int32) => if (x2.toUInt32 % 65536).toInt32 = x2 then some x2 else none
set_option maxRecDepth 100000 in
set_option maxHeartbeats 4000000 in
theorem c_J0_charAt_5068e {l : Launch} {E : State → Prop} {D : va_G} {cy : Nat → ClassId} {ad : Nat → Nat} {L : List Nat} {adK adV : Nat → Nat} {mem : gMem} {i0 : Nat} {p0 : Int32} {rv : Int32} (hk : gOk ad L) (hL : ∀ o ∈ LX0, o ∈ L) (hE : gEok ad L E) (hSs : ∀ s : State, E s → gS (gA ad L) adK adV s) (hi0 : i0 < 5) (h : f_J0_charAt_5068e i0 p0 = some rv) : gMet l yJ0_charAt_5068e cJ0_charAt_5068e 2 (some .char) 3 64 E D cy shX ad L [.ref (adK i0), .int p0] mem mem (some (.int rv)) := by
  refine g_go (own := RJ0) (by decide +kernel) rfl hE (Nat.le_of_ble_eq_true rfl) ?_
  intro p e s m args below meth c R Q hargs hR hQ hEs hC hr hX H locs ls hH hl
  have hF := gF_of hk
  have hl : lv_has ls 2 [(0, .ref (adK i0)), (1, .int p0)] := hl
  refine lv_aload_n hC.x hC.b dJ0_charAt_5068e_0 rfl (lv_at hl 0 rfl) ?_
  obtain ⟨x1, hf1, h⟩ := bd_e h
  have hone : (1 : Int32) = x1 := Option.some.inj hf1
  subst hone
  refine c_VR1 (As := []) (rest := []) (i := i0) hC hX hE.2.1 hF (hSs _ hEs) hi0 hH (c_J0_isLatin1_aae02 (l := l) hk hL hE hSs hi0 hf1) kw493 kw494 kw495 kw480 kw496 a_J0_isLatin1_aae02.1 a_J0_isLatin1_aae02.2 rfl hl.1 (rmk hR (by decide) (by decide)) (Nat.le_of_ble_eq_true rfl) dJ0_charAt_5068e_1 (fun H locs hH => ?_)
  refine lv_if_eq (tgt := 16) hC.x hC.b dJ0_charAt_5068e_4 (by decide) (fun hz => absurd hz (by decide)) (fun _ => ?_)
  refine lv_aload_n hC.x hC.b dJ0_charAt_5068e_7 rfl (lv_at hl 0 rfl) ?_
  refine s_val hC (hSs _ hEs) hH hi0 kw482 dJ0_charAt_5068e_8 ?_
  refine lv_iload_n hC.x hC.b dJ0_charAt_5068e_11 rfl (lv_at hl 1 rfl) ?_
  obtain ⟨x2, hf2, h⟩ := bd_e h
  refine c_S1 (As := [.ref (adV i0), .int p0]) (rest := []) hC hX hE.2.1 hF hH (c_J1_charAt_3b067 (l := l) hk hL hE hSs hi0 hf2) kw497 kw498 kw499 kw500 a_J1_charAt_3b067.1 a_J1_charAt_3b067.2 rfl hl.1 (rmk hR (by decide) (by decide)) (Nat.le_of_ble_eq_true rfl) dJ0_charAt_5068e_12 (fun H locs hH => ?_)
  rw [hQ]
  exact e_nr hC hr (isC_n (chk h).1) hH (chk h).2 dJ0_charAt_5068e_15
theorem a_J0_indexOf_7cf53 : noMH yJ0_indexOf_7cf53.cls ∧ arity yJ0_indexOf_7cf53.desc 2 := by decide +kernel
def f_J0_indexOf_0f7a4 (i0 : Nat) (p0 : Int32) : Option Int32 := bd (f_J0_indexOf_7cf53 i0 p0 (0 : Int32)) fun (x1 : Int32) => some x1
set_option maxRecDepth 100000 in
set_option maxHeartbeats 4000000 in
theorem c_J0_indexOf_0f7a4 {l : Launch} {E : State → Prop} {D : va_G} {cy : Nat → ClassId} {ad : Nat → Nat} {L : List Nat} {adK adV : Nat → Nat} {mem : gMem} {i0 : Nat} {p0 : Int32} {rv : Int32} (hk : gOk ad L) (hL : ∀ o ∈ LX0, o ∈ L) (hE : gEok ad L E) (hSs : ∀ s : State, E s → gS (gA ad L) adK adV s) (hi0 : i0 < 5) (h : f_J0_indexOf_0f7a4 i0 p0 = some rv) : gMet l yJ0_indexOf_0f7a4 cJ0_indexOf_0f7a4 2 (some .int) 3 70 E D cy shX ad L [.ref (adK i0), .int p0] mem mem (some (.int rv)) := by
  refine g_go (own := RJ0) (by decide +kernel) rfl hE (Nat.le_of_ble_eq_true rfl) ?_
  intro p e s m args below meth c R Q hargs hR hQ hEs hC hr hX H locs ls hH hl
  have hF := gF_of hk
  have hl : lv_has ls 2 [(0, .ref (adK i0)), (1, .int p0)] := hl
  refine lv_aload_n hC.x hC.b dJ0_indexOf_0f7a4_0 rfl (lv_at hl 0 rfl) ?_
  refine lv_iload_n hC.x hC.b dJ0_indexOf_0f7a4_1 rfl (lv_at hl 1 rfl) ?_
  refine lv_iconst (v := 0) hC.x hC.b dJ0_indexOf_0f7a4_2 rfl ?_
  obtain ⟨x1, hf1, h⟩ := bd_e h
  refine c_VR1 (As := [.int p0, .int (0 : Int32)]) (rest := []) (i := i0) hC hX hE.2.1 hF (hSs _ hEs) hi0 hH (c_J0_indexOf_7cf53 (l := l) hk hL hE hSs hi0 hf1) kw569 kw570 kw571 kw480 kw572 a_J0_indexOf_7cf53.1 a_J0_indexOf_7cf53.2 rfl hl.1 (rmk hR (by decide) (by decide)) (Nat.le_of_ble_eq_true rfl) dJ0_indexOf_0f7a4_3 (fun H locs hH => ?_)
  rw [hQ]
  exact e_ir hC hr hH h dJ0_indexOf_0f7a4_6
theorem a_X3_hasDeep : noMH yX3_hasDeep.cls ∧ arity yX3_hasDeep.desc 0 := by decide +kernel
theorem a_X2_setFacts : noMH yX2_setFacts.cls ∧ arity yX2_setFacts.desc 5 := by decide +kernel
theorem a_X3_together : noMH yX3_together.cls ∧ arity yX3_together.desc 2 := by decide +kernel
def f_X2_depth (L : List Nat) (mem : gMem) (p0 : Int32) : Option (Int32 × gMem) := oc (gR mem 10 15) (some ((8 : Int32), mem)) fun g1 => if isN g1 then bd (f_X3_hasDeep L mem g1) fun (x2 : Int32) => if x2 = 0 then (some ((8 : Int32), mem)) else bd (f_X2_setFacts L mem p0 (0 : Int32) (0 : Int32) (0 : Int32) (0 : Int32)) fun (m3 : gMem) => oc (gR m3 10 15) none fun g4 => if isN g4 then bd (f_X3_together L m3 g4 (0 : Int32)) fun (x5 : Int32) => some (x5, m3) else none else none
set_option maxRecDepth 100000 in
set_option maxHeartbeats 4000000 in
theorem c_X2_depth {l : Launch} {E : State → Prop} {D : va_G} {cy : Nat → ClassId} {ad : Nat → Nat} {L : List Nat} {mem : gMem} {p0 : Int32} {rv : Int32} {memz : gMem} (hk : gOk ad L) (hL : ∀ o ∈ LX0, o ∈ L) (hE : gEok ad L E)  (h : f_X2_depth L mem p0 = some (rv, memz)) : gMet l yX2_depth cX2_depth 2 (some .int) 3 77 E D cy shX ad L [.ref (ad 10), .int p0] mem memz (some (.int rv)) := by
  refine g_go (own := RX2) (by decide +kernel) rfl hE (Nat.le_of_ble_eq_true rfl) ?_
  intro p e s m args below meth c R Q hargs hR hQ hEs hC hr hX H locs ls hH hl
  have hF := gF_of hk
  have hl : lv_has ls 2 [(0, .ref (ad 10)), (1, .int p0)] := hl
  refine lv_aload_n hC.x hC.b dX2_depth_0 rfl (lv_at hl 0 rfl) ?_
  refine r_getr hC hH fl_X2_68_2 (hL _ mX10) sX10 rfl dX2_depth_1 ?_
  refine b_null (tgt := 17) hC dX2_depth_4 (by decide) h (fun ho h => ?_) (fun g1 hyg1 h => ?_)
  · refine lv_bipush (v := 8) hC.x hC.b dX2_depth_17 rfl ?_
    rw [hQ]
    exact e_i hC hr hH h dX2_depth_19
  · obtain ⟨hNg1, h⟩ := chk h
    refine lv_aload_n hC.x hC.b dX2_depth_7 rfl (lv_at hl 0 rfl) ?_
    refine r_getrS hC hH fl_X2_68_2 (hL _ mX10) sX10 rfl hyg1 dX2_depth_8 ?_
    obtain ⟨x2, hf2, h⟩ := bd_e h
    refine c_V1 (As := []) (rest := []) (o := g1) (q := (RX3, TX3, 6)) hC hX hE.2.1 hF hH (c_X3_hasDeep (l := l) hk hL hE hNg1 hf2) kw699 kw700 kw701 kw38 kw702 a_X3_hasDeep.1 a_X3_hasDeep.2 (hL _ (mN hNg1 (k := 0) (by decide))) (sN0 hNg1) rfl rfl hl.1 (rmk hR (by decide) (by decide)) (Nat.le_of_ble_eq_true rfl) dX2_depth_11 (fun H locs hH => ?_)
    refine b_if_ne (tgt := 20) hC dX2_depth_14 (by decide) h (fun h => ?_) (fun h => ?_)
    · refine lv_aload_n hC.x hC.b dX2_depth_20 rfl (lv_at hl 0 rfl) ?_
      refine lv_iload_n hC.x hC.b dX2_depth_21 rfl (lv_at hl 1 rfl) ?_
      refine lv_iconst (v := 0) hC.x hC.b dX2_depth_22 rfl ?_
      refine lv_iconst (v := 0) hC.x hC.b dX2_depth_23 rfl ?_
      refine lv_iconst (v := 0) hC.x hC.b dX2_depth_24 rfl ?_
      refine lv_iconst (v := 0) hC.x hC.b dX2_depth_25 rfl ?_
      obtain ⟨m3, hf3, h⟩ := bd_e h
      refine c_V0 (As := [.int p0, .int (0 : Int32), .int (0 : Int32), .int (0 : Int32), .int (0 : Int32)]) (rest := []) (o := 10) (q := (RX2, TX2, 17)) hC hX hE.2.1 hF hH (c_X2_setFacts (l := l) hk hL hE hf3) kw312 kw313 kw314 kw15 kw315 a_X2_setFacts.1 a_X2_setFacts.2 (hL _ mX10) sX10 rfl rfl hl.1 (rmk hR (by decide) (by decide)) (Nat.le_of_ble_eq_true rfl) dX2_depth_26 (fun H locs hH => ?_)
      refine lv_aload_n hC.x hC.b dX2_depth_29 rfl (lv_at hl 0 rfl) ?_
      refine r_getr hC hH fl_X2_68_2 (hL _ mX10) sX10 rfl dX2_depth_30 ?_
      refine d_top h (fun g4 hyg4 h => ?_)
      obtain ⟨hNg4, h⟩ := chk h
      refine lv_iconst (v := 0) hC.x hC.b dX2_depth_33 rfl ?_
      refine lv_aload_n hC.x hC.b dX2_depth_34 rfl (lv_at hl 0 rfl) ?_
      refine r_getc (z := 17) hC hH fl_X2_34_2 (hL _ mX10) sX10 rfl dX2_depth_35 ?_
      obtain ⟨x5, hf5, h⟩ := bd_e h
      refine c_V1 (As := [.int (0 : Int32), .ref (ad 17)]) (rest := []) (o := g4) (q := (RX3, TX3, 6)) hC hX hE.2.1 hF hH (c_X3_together (l := l) hk hL hE hNg4 hf5) kw316 kw317 kw318 kw38 kw319 a_X3_together.1 a_X3_together.2 (hL _ (mN hNg4 (k := 0) (by decide))) (sN0 hNg4) rfl rfl hl.1 (rmk hR (by decide) (by decide)) (Nat.le_of_ble_eq_true rfl) dX2_depth_38 (fun H locs hH => ?_)
      rw [hQ]
      exact e_i hC hr hH h dX2_depth_41
    · refine lv_bipush (v := 8) hC.x hC.b dX2_depth_17 rfl ?_
      rw [hQ]
      exact e_i hC hr hH h dX2_depth_19
def f_X2_loud (L : List Nat) (mem : gMem) (p0 : Int32) (p1 : Int32) (p2 : Int32) (p3 : Int32) (p4 : Int32) : Option (Int32 × gMem) := lt1 (p1 + ((9 : Int32) * p2)) fun (x1 : Int32) => jn ((fun (x9 : Int32) (m10 : gMem) => some ((if (0 : Int32) < x9 then x9 else (0 : Int32)), m10)) : Int32 → gMem → Option (Int32 × gMem)) fun j2 => oc (gR mem 10 15) ((j2 x1 mem)) fun g3 => if isN g3 then bd (f_X2_setFacts L mem p4 p0 p1 p3 p2) fun (m4 : gMem) => oc (gR m4 10 15) none fun g5 => if isN g5 then bd (f_X3_together L m4 g5 (1 : Int32)) fun (x6 : Int32) => bd (f_X3_together L m4 g5 (2 : Int32)) fun (x7 : Int32) => lt1 (x1 + (x6 - x7)) fun (x8 : Int32) => (j2 x8 m4) else none else none
set_option maxRecDepth 100000 in
set_option maxHeartbeats 4000000 in
theorem c_X2_loud {l : Launch} {E : State → Prop} {D : va_G} {cy : Nat → ClassId} {ad : Nat → Nat} {L : List Nat} {mem : gMem} {p0 : Int32} {p1 : Int32} {p2 : Int32} {p3 : Int32} {p4 : Int32} {rv : Int32} {memz : gMem} (hk : gOk ad L) (hL : ∀ o ∈ LX0, o ∈ L) (hE : gEok ad L E)  (h : f_X2_loud L mem p0 p1 p2 p3 p4 = some (rv, memz)) : gMet l yX2_loud cX2_loud 7 (some .int) 3 77 E D cy shX ad L [.ref (ad 10), .int p0, .int p1, .int p2, .int p3, .int p4] mem memz (some (.int rv)) := by
  refine g_go (own := RX2) (by decide +kernel) rfl hE (Nat.le_of_ble_eq_true rfl) ?_
  intro p e s m args below meth c R Q hargs hR hQ hEs hC hr hX H locs ls hH hl
  have hF := gF_of hk
  have hl : lv_has ls 7 [(0, .ref (ad 10)), (1, .int p0), (2, .int p1), (3, .int p2), (4, .int p3), (5, .int p4)] := hl
  refine lv_iload_n hC.x hC.b dX2_loud_0 rfl (lv_at hl 2 rfl) ?_
  refine lv_bipush (v := 9) hC.x hC.b dX2_loud_1 rfl ?_
  refine lv_iload_n hC.x hC.b dX2_loud_3 rfl (lv_at hl 3 rfl) ?_
  refine lv_imul hC.x hC.b dX2_loud_4 ?_
  refine lv_iadd hC.x hC.b dX2_loud_5 ?_
  refine n_i h (fun x1 h => ?_)
  refine lv_istore (lv' := [(6, .int x1), (0, .ref (ad 10)), (1, .int p0), (2, .int p1), (3, .int p2), (4, .int p3), (5, .int p4)]) hC.x hC.b dX2_loud_6 hl (by decide) rfl (fun ls hl => ?_)
  refine lv_aload_n hC.x hC.b dX2_loud_8 rfl (lv_at hl 1 rfl) ?_
  refine r_getr hC hH fl_X2_68_2 (hL _ mX10) sX10 rfl dX2_loud_9 ?_
  obtain ⟨j2, ej2, h⟩ := jn_e h
  have hj2 : ∀ (x9 : Int32) (m10 : gMem) (H : Heap) (locs : List Loc) (ls : Array Slot), (j2 x9 m10) = some (rv, memz) → gH D cy shX ad L (gA ad L) s.heap m10 H locs → lv_has ls 7 [(6, .int x9)] → W p l e R s m args below meth c H locs 0 0 Q (F0 m 56 ls []) := by
    intro x9 m10 H locs ls h hH hl
    have h := ap2 ej2 h
    refine lv_iconst (v := 0) hC.x hC.b dX2_loud_56 rfl ?_
    refine lv_iload hC.x hC.b dX2_loud_57 (lv_at hl 0 rfl) ?_
    refine m_max hC hl.1 kw308 kw309 kw310 kw311 (rmM hR (by decide) (Nat.le_of_ble_eq_true rfl)) dX2_loud_59 ?_
    rw [hQ]
    exact e_i hC hr hH h dX2_loud_62
  clear ej2
  refine b_null (tgt := 56) hC dX2_loud_12 (by decide) h (fun ho h => ?_) (fun g3 hyg3 h => ?_)
  · exact hj2 x1 mem H locs ls h hH (lv_sub hl [0] rfl)
  · obtain ⟨hNg3, h⟩ := chk h
    refine lv_aload_n hC.x hC.b dX2_loud_15 rfl (lv_at hl 1 rfl) ?_
    refine lv_iload hC.x hC.b dX2_loud_16 (lv_at hl 6 rfl) ?_
    refine lv_iload_n hC.x hC.b dX2_loud_18 rfl (lv_at hl 2 rfl) ?_
    refine lv_iload_n hC.x hC.b dX2_loud_19 rfl (lv_at hl 3 rfl) ?_
    refine lv_iload hC.x hC.b dX2_loud_20 (lv_at hl 5 rfl) ?_
    refine lv_iload_n hC.x hC.b dX2_loud_22 rfl (lv_at hl 4 rfl) ?_
    obtain ⟨m4, hf4, h⟩ := bd_e h
    refine c_V0 (As := [.int p4, .int p0, .int p1, .int p3, .int p2]) (rest := []) (o := 10) (q := (RX2, TX2, 17)) hC hX hE.2.1 hF hH (c_X2_setFacts (l := l) hk hL hE hf4) kw312 kw313 kw314 kw15 kw315 a_X2_setFacts.1 a_X2_setFacts.2 (hL _ mX10) sX10 rfl rfl hl.1 (rmk hR (by decide) (by decide)) (Nat.le_of_ble_eq_true rfl) dX2_loud_23 (fun H locs hH => ?_)
    refine lv_iload hC.x hC.b dX2_loud_26 (lv_at hl 0 rfl) ?_
    refine lv_aload_n hC.x hC.b dX2_loud_28 rfl (lv_at hl 1 rfl) ?_
    refine r_getr hC hH fl_X2_68_2 (hL _ mX10) sX10 rfl dX2_loud_29 ?_
    refine d_top h (fun g5 hyg5 h => ?_)
    obtain ⟨hNg5, h⟩ := chk h
    refine lv_iconst (v := 1) hC.x hC.b dX2_loud_32 rfl ?_
    refine lv_aload_n hC.x hC.b dX2_loud_33 rfl (lv_at hl 1 rfl) ?_
    refine r_getc (z := 17) hC hH fl_X2_34_2 (hL _ mX10) sX10 rfl dX2_loud_34 ?_
    obtain ⟨x6, hf6, h⟩ := bd_e h
    refine c_V1 (As := [.int (1 : Int32), .ref (ad 17)]) (rest := [.int x1]) (o := g5) (q := (RX3, TX3, 6)) hC hX hE.2.1 hF hH (c_X3_together (l := l) hk hL hE hNg5 hf6) kw316 kw317 kw318 kw38 kw319 a_X3_together.1 a_X3_together.2 (hL _ (mN hNg5 (k := 0) (by decide))) (sN0 hNg5) rfl rfl hl.1 (rmk hR (by decide) (by decide)) (Nat.le_of_ble_eq_true rfl) dX2_loud_37 (fun H locs hH => ?_)
    refine lv_aload_n hC.x hC.b dX2_loud_40 rfl (lv_at hl 1 rfl) ?_
    refine r_getrS hC hH fl_X2_68_2 (hL _ mX10) sX10 rfl hyg5 dX2_loud_41 ?_
    refine lv_iconst (v := 2) hC.x hC.b dX2_loud_44 rfl ?_
    refine lv_aload_n hC.x hC.b dX2_loud_45 rfl (lv_at hl 1 rfl) ?_
    refine r_getc (z := 17) hC hH fl_X2_34_2 (hL _ mX10) sX10 rfl dX2_loud_46 ?_
    obtain ⟨x7, hf7, h⟩ := bd_e h
    refine c_V1 (As := [.int (2 : Int32), .ref (ad 17)]) (rest := [.int x6, .int x1]) (o := g5) (q := (RX3, TX3, 6)) hC hX hE.2.1 hF hH (c_X3_together (l := l) hk hL hE hNg5 hf7) kw316 kw317 kw318 kw38 kw319 a_X3_together.1 a_X3_together.2 (hL _ (mN hNg5 (k := 0) (by decide))) (sN0 hNg5) rfl rfl hl.1 (rmk hR (by decide) (by decide)) (Nat.le_of_ble_eq_true rfl) dX2_loud_49 (fun H locs hH => ?_)
    refine lv_isub hC.x hC.b dX2_loud_52 ?_
    refine lv_iadd hC.x hC.b dX2_loud_53 ?_
    refine n_i h (fun x8 h => ?_)
    refine lv_istore (lv' := [(6, .int x8), (0, .ref (ad 10)), (1, .int p0), (2, .int p1), (3, .int p2), (4, .int p3), (5, .int p4)]) hC.x hC.b dX2_loud_54 hl (by decide) rfl (fun ls hl => ?_)
    exact hj2 x8 m4 H locs ls h hH (lv_sub hl [0] rfl)
def d_actTreads (L : List Nat) (mem : gMem) (w : Nat) (x0 : Int32) : Option (Int32 × gMem) := if wkd w = 0 then f_X9_actTreads L mem w x0 else if wkd w = 1 then f_X9_actTreads L mem w x0 else if wkd w = 2 then f_X6_actTreads L mem w x0 else if wkd w = 3 then f_X9_actTreads L mem w x0 else if wkd w = 4 then f_X7_actTreads L mem w x0 else if wkd w = 5 then f_X6_actTreads L mem w x0 else f_X8_actTreads L mem w x0
theorem a_X6_actTreads : noMH yX6_actTreads.cls ∧ arity yX6_actTreads.desc 1 := by decide +kernel
theorem a_X7_actTreads : noMH yX7_actTreads.cls ∧ arity yX7_actTreads.desc 1 := by decide +kernel
theorem a_X8_actTreads : noMH yX8_actTreads.cls ∧ arity yX8_actTreads.desc 1 := by decide +kernel
theorem v_X9_35_actTreads {p : Program} {l : Launch} {e : Env} {R : Room} {s : State} {m : MethodId} {args : Array Value} {below : List Frame} {meth : Method} {c : Code} {H : Heap} {locs : List Loc} {Q : State → Prop} {cc : ByteArray} {nL : Nat} {pc : Nat} {ls : Array Slot} {rest : List Value} {D : va_G} {cy : Nat → ClassId} {ad : Nat → Nat} {L : List Nat} {mem mem' : gMem} {E : State → Prop} {fr0 lo0 w : Nat} {x0 : Int32} {rv : Int32} (hC : gC p s m args meth c cc nL RX9 D cy) (hX : gX (gA ad L) s E) (hk : gOk ad L) (hL : ∀ o ∈ LX0, o ∈ L) (hE : gEok ad L E) (hF : gF ad L (gA ad L)) (hH : gH D cy shX ad L (gA ad L) s.heap mem H locs) (hw : wok L w) (hf : d_actTreads L mem w x0 = some (rv, mem')) (hls : ls.size = nL) (hR : R = gRm fr0 lo0) (h1 : 3 ≤ fr0) (h2 : 63 ≤ lo0) (hW : (rest.map fun v => v.category).sum ≤ 8) (hdg : decode cc pc = .ok (.invokevirtual 35, 3))
    (kk : ∀ (H1 : Heap) (locs1 : List Loc), gH D cy shX ad L (gA ad L) s.heap mem' H1 locs1 → W p l e R s m args below meth c H1 locs1 0 0 Q (F0 m (pc + 3) ls (.int rv :: rest))) : W p l e R s m args below meth c H locs 0 0 Q (F0 m pc ls (.int x0 :: .ref (ad w) :: rest)) := by
  have hk7 := hw.2.2.1
  unfold d_actTreads at hf
  by_cases hc : wkd w = 0
  · have hf := ifp hc hf
    exact c_U1 (As := [.int x0]) (rest := rest) (o := w) (x := ⟨"OnTiptoe$Walker", "actTreads", "(I)I"⟩) (owner := "OnTiptoe$Walker") (b0 := cX9_actTreads) (m0 := 2) (r0 := (some .int)) (q := (RX9, TX9, 6)) hC hX hE.2.1 hF hH (c_X9_actTreads (l := l) (mem := mem) hk hL hE hw hf) kw1176 kw1126 kw1170 kw221 kw1141 kw1127 kw1127 kw1141 (by decide +kernel) a_X9_actTreads.2 hw.2.2.2.1 (sWk hw hc) rfl rfl hls (rmk hR (by omega) (by omega)) hW hdg kk
  have hf := ifn hc hf
  have hz0 := hc
  clear hc
  by_cases hc : wkd w = 1
  · have hf := ifp hc hf
    exact c_U1 (As := [.int x0]) (rest := rest) (o := w) (x := ⟨"OnTiptoe$Walker", "actTreads", "(I)I"⟩) (owner := "OnTiptoe$Walker") (b0 := cX9_actTreads) (m0 := 2) (r0 := (some .int)) (q := (RX1, TX1, 6)) hC hX hE.2.1 hF hH (c_X9_actTreads (l := l) (mem := mem) hk hL hE hw hf) kw1176 kw1126 kw1152 kw221 kw1141 kw1127 kw1127 kw1141 (by decide +kernel) a_X9_actTreads.2 hw.2.2.2.1 (sWk hw hc) rfl rfl hls (rmk hR (by omega) (by omega)) hW hdg kk
  have hf := ifn hc hf
  have hz1 := hc
  clear hc
  by_cases hc : wkd w = 2
  · have hf := ifp hc hf
    exact c_U1 (As := [.int x0]) (rest := rest) (o := w) (x := ⟨"OnTiptoe$Walker", "actTreads", "(I)I"⟩) (owner := "OnTiptoe$Walker") (b0 := cX9_actTreads) (m0 := 2) (r0 := (some .int)) (q := (RX6, TX6, 6)) hC hX hE.2.1 hF hH (c_X6_actTreads (l := l) (mem := mem) hk hL hE hw (by omega) hf) kw1176 kw1126 kw1154 kw207 kw1130 kw1129 kw1127 kw1141 (by decide +kernel) a_X6_actTreads.2 hw.2.2.2.1 (sWk hw hc) rfl rfl hls (rmk hR (by omega) (by omega)) hW hdg kk
  have hf := ifn hc hf
  have hz2 := hc
  clear hc
  by_cases hc : wkd w = 3
  · have hf := ifp hc hf
    exact c_U1 (As := [.int x0]) (rest := rest) (o := w) (x := ⟨"OnTiptoe$Walker", "actTreads", "(I)I"⟩) (owner := "OnTiptoe$Walker") (b0 := cX9_actTreads) (m0 := 2) (r0 := (some .int)) (q := (RX5, TX5, 6)) hC hX hE.2.1 hF hH (c_X9_actTreads (l := l) (mem := mem) hk hL hE hw hf) kw1176 kw1126 kw1153 kw221 kw1141 kw1127 kw1127 kw1141 (by decide +kernel) a_X9_actTreads.2 hw.2.2.2.1 (sWk hw hc) rfl rfl hls (rmk hR (by omega) (by omega)) hW hdg kk
  have hf := ifn hc hf
  have hz3 := hc
  clear hc
  by_cases hc : wkd w = 4
  · have hf := ifp hc hf
    exact c_U1 (As := [.int x0]) (rest := rest) (o := w) (x := ⟨"OnTiptoe$Walker", "actTreads", "(I)I"⟩) (owner := "OnTiptoe$Walker") (b0 := cX9_actTreads) (m0 := 2) (r0 := (some .int)) (q := (RX7, TX7, 6)) hC hX hE.2.1 hF hH (c_X7_actTreads (l := l) (mem := mem) hk hL hE hw (by omega) hf) kw1176 kw1126 kw1155 kw213 kw1157 kw1156 kw1127 kw1141 (by decide +kernel) a_X7_actTreads.2 hw.2.2.2.1 (sWk hw hc) rfl rfl hls (rmk hR (by omega) (by omega)) hW hdg kk
  have hf := ifn hc hf
  have hz4 := hc
  clear hc
  by_cases hc : wkd w = 5
  · have hf := ifp hc hf
    exact c_U1 (As := [.int x0]) (rest := rest) (o := w) (x := ⟨"OnTiptoe$Walker", "actTreads", "(I)I"⟩) (owner := "OnTiptoe$Walker") (b0 := cX9_actTreads) (m0 := 2) (r0 := (some .int)) (q := (RX0, TX0, 6)) hC hX hE.2.1 hF hH (c_X6_actTreads (l := l) (mem := mem) hk hL hE hw (by omega) hf) kw1176 kw1126 kw1128 kw207 kw1130 kw1129 kw1127 kw1141 (by decide +kernel) a_X6_actTreads.2 hw.2.2.2.1 (sWk hw hc) rfl rfl hls (rmk hR (by omega) (by omega)) hW hdg kk
  have hf := ifn hc hf
  have hz5 := hc
  clear hc
  have hc : wkd w = 6 := by omega
  exact c_U1 (As := [.int x0]) (rest := rest) (o := w) (x := ⟨"OnTiptoe$Walker", "actTreads", "(I)I"⟩) (owner := "OnTiptoe$Walker") (b0 := cX9_actTreads) (m0 := 2) (r0 := (some .int)) (q := (RX8, TX8, 8)) hC hX hE.2.1 hF hH (c_X8_actTreads (l := l) (mem := mem) hk hL hE hw (by omega) hf) kw1176 kw1126 kw1161 kw219 kw1163 kw1162 kw1127 kw1141 (by decide +kernel) a_X8_actTreads.2 hw.2.2.2.1 (sWk hw hc) rfl rfl hls (rmk hR (by omega) (by omega)) hW hdg kk
theorem fw_X9_19 : ∀ j, j < 7 → gFl RX9 19 (kci j) 1 := by
  intro j hj
  rcases (show j = 0 ∨ j = 1 ∨ j = 2 ∨ j = 3 ∨ j = 4 ∨ j = 5 ∨ j = 6 by omega) with rfl | rfl | rfl | rfl | rfl | rfl | rfl
  · exact ⟨RX9, TX9, 6, "OnTiptoe$Walker", rfl, inW9, by decide, kw231, Or.inl rfl⟩
  · exact ⟨RX1, TX1, 6, "OnTiptoe$Walker", rfl, inW1, by decide, kw231, Or.inl rfl⟩
  · exact ⟨RX6, TX6, 6, "OnTiptoe$Walker", rfl, inW6, by decide, kw231, Or.inl rfl⟩
  · exact ⟨RX5, TX5, 6, "OnTiptoe$Walker", rfl, inW5, by decide, kw231, Or.inl rfl⟩
  · exact ⟨RX7, TX7, 6, "OnTiptoe$Walker", rfl, inW7, by decide, kw231, Or.inl rfl⟩
  · exact ⟨RX0, TX0, 6, "OnTiptoe$Walker", rfl, inW0, by decide, kw231, Or.inl rfl⟩
  · exact ⟨RX8, TX8, 8, "OnTiptoe$Walker", rfl, inW8, by decide, kw231, Or.inl rfl⟩
def f_X9_actGoes (L : List Nat) (mem : gMem) (w0 : Nat) (p0 : Int32) : Option (Int32 × gMem) := bd (f_X9_begin L mem w0 (11 : Int32)) fun (m1 : gMem) => bd2 (d_actTreads L m1 w0 p0) fun (x3 : Int32) (m2 : gMem) => some ((x3 - (gI m2 w0 1)), m2)
set_option maxRecDepth 100000 in
set_option maxHeartbeats 4000000 in
theorem c_X9_actGoes {l : Launch} {E : State → Prop} {D : va_G} {cy : Nat → ClassId} {ad : Nat → Nat} {L : List Nat} {mem : gMem} {w0 : Nat} {p0 : Int32} {rv : Int32} {memz : gMem} (hk : gOk ad L) (hL : ∀ o ∈ LX0, o ∈ L) (hE : gEok ad L E) (hw0 : wok L w0) (h : f_X9_actGoes L mem w0 p0 = some (rv, memz)) : gMet l yX9_actGoes cX9_actGoes 2 (some .int) 3 63 E D cy shX ad L [.ref (ad w0), .int p0] mem memz (some (.int rv)) := by
  refine g_go (own := RX9) (by decide +kernel) rfl hE (Nat.le_of_ble_eq_true rfl) ?_
  intro p e s m args below meth c R Q hargs hR hQ hEs hC hr hX H locs ls hH hl
  have hF := gF_of hk
  have hl : lv_has ls 2 [(0, .ref (ad w0)), (1, .int p0)] := hl
  refine lv_aload_n hC.x hC.b dX9_actGoes_0 rfl (lv_at hl 0 rfl) ?_
  refine lv_bipush (v := 11) hC.x hC.b dX9_actGoes_1 rfl ?_
  obtain ⟨m1, hf1, h⟩ := bd_e h
  refine v_X9_31_begin hC hX hk hL hE hF hH hw0 hf1 hl.1 hR (by decide) (by decide) (Nat.le_of_ble_eq_true rfl) dX9_actGoes_3 (fun H locs hH => ?_)
  refine lv_aload_n hC.x hC.b dX9_actGoes_6 rfl (lv_at hl 0 rfl) ?_
  refine lv_iload_n hC.x hC.b dX9_actGoes_7 rfl (lv_at hl 1 rfl) ?_
  obtain ⟨x3, m2, hf3, h⟩ := bd2_e h
  refine v_X9_35_actTreads hC hX hk hL hE hF hH hw0 hf3 hl.1 hR (by decide) (by decide) (Nat.le_of_ble_eq_true rfl) dX9_actGoes_8 (fun H locs hH => ?_)
  refine lv_aload_n hC.x hC.b dX9_actGoes_11 rfl (lv_at hl 0 rfl) ?_
  refine r_geti hC hH (fw_X9_19 _ hw0.2.2.1) hw0.2.2.2.1 (sW0 hw0) rfl dX9_actGoes_12 ?_
  refine lv_isub hC.x hC.b dX9_actGoes_15 ?_
  rw [hQ]
  exact e_i hC hr hH h dX9_actGoes_16
theorem a_X10_spread : noMH yX10_spread.cls ∧ arity yX10_spread.desc 4 := by decide +kernel
def s_X10_fewest_90 (j15 : gMem → Option (Int32 × gMem)) (x14 : Int32) (L : List Nat) (x11 : Int32) (p3 : Int32) (self16 : Int32 → gMem → Option (Int32 × gMem)) (x17 : Int32) (m18 : gMem) : Option (Int32 × gMem) := if (12 : Int32) ≤ x17 then ((j15 m18)) else if okI x14 12 then bd (f_X10_spread L m18 x11 x17 x14 ((gI m18 34 (ix x14)) + p3)) fun (m19 : gMem) => lt1 (x17 + (1 : Int32)) fun (x20 : Int32) => (self16 x20 m19) else none
def s_X10_fewest_47 (L : List Nat) (p1 : Int32) (p3 : Int32) (self10 : Int32 → gMem → Option (Int32 × gMem)) (x11 : Int32) (m12 : gMem) : Option (Int32 × gMem) := if (30 : Int32) < x11 then (some ((-5 : Int32), m12)) else bd (f_X10_leastAt L m12 x11 (gI m12 32 3)) fun (x13 : Int32) => if (3 : Int32) ≤ x13 then (bd (f_J9_floorMod_7cf53 ((p1 + x11) + (gI m12 32 2)) (12 : Int32)) fun (x14 : Int32) => jn ((fun (m21 : gMem) => lt1 (x11 + (1 : Int32)) fun (x22 : Int32) => (self10 x22 m21)) : gMem → Option (Int32 × gMem)) fun j15 => lq2 (s_X10_fewest_90 j15 x14 L x11 p3) 1000 (0 : Int32) m12) else some (x11, m12)
def s_X10_fewest_13 (j2 : gMem → Option (Int32 × gMem)) (self3 : Int32 → gMem → Option (Int32 × gMem)) (x4 : Int32) (m5 : gMem) : Option (Int32 × gMem) := if (372 : Int32) ≤ x4 then ((j2 m5)) else if okI x4 372 then lt1 (gsI m5 35 (ix x4) (3 : Int32)) fun (m6 : gMem) => lt1 (x4 + (1 : Int32)) fun (x7 : Int32) => (self3 x7 m6) else none
def f_X10_fewest (L : List Nat) (mem : gMem) (p0 : Int32) (p1 : Int32) (p2 : Int32) (p3 : Int32) : Option (Int32 × gMem) := bd (f_X11_isBoard p0) fun (x1 : Int32) => if x1 = 0 then (some ((-5 : Int32), mem)) else jn ((fun (m8 : gMem) => if okI p0 372 then lt1 (gsI m8 35 (ix p0) p2) fun (m9 : gMem) => lq2 (s_X10_fewest_47 L p1 p3) 1000 (0 : Int32) m9 else none) : gMem → Option (Int32 × gMem)) fun j2 => lq2 (s_X10_fewest_13 j2) 1000 (0 : Int32) mem
set_option maxRecDepth 100000 in
set_option maxHeartbeats 4000000 in
theorem c_X10_fewest {l : Launch} {E : State → Prop} {D : va_G} {cy : Nat → ClassId} {ad : Nat → Nat} {L : List Nat} {mem : gMem} {p0 : Int32} {p1 : Int32} {p2 : Int32} {p3 : Int32} {rv : Int32} {memz : gMem} (hk : gOk ad L) (hL : ∀ o ∈ LX0, o ∈ L) (hE : gEok ad L E)  (h : f_X10_fewest L mem p0 p1 p2 p3 = some (rv, memz)) : gMet l yX10_fewest cX10_fewest 8 (some .int) 3 72 E D cy shX ad L [.ref (ad 32), .int p0, .int p1, .int p2, .int p3] mem memz (some (.int rv)) := by
  refine g_go (own := RX10) (by decide +kernel) rfl hE (Nat.le_of_ble_eq_true rfl) ?_
  intro p e s m args below meth c R Q hargs hR hQ hEs hC hr hX H locs ls hH hl
  have hF := gF_of hk
  have hl : lv_has ls 8 [(0, .ref (ad 32)), (1, .int p0), (2, .int p1), (3, .int p2), (4, .int p3)] := hl
  refine lv_iload_n hC.x hC.b dX10_fewest_0 rfl (lv_at hl 1 rfl) ?_
  obtain ⟨x1, hf1, h⟩ := bd_e h
  refine c_SN1 (As := [.int p0]) (rest := []) (host := RX11) hC hX hE.2.1 hF hH (c_X11_isBoard (l := l) hk hL hE hf1) ((hE.2.2 _ hEs).1 (RX10, 49, yX11_isBoard, RX11) (by decide)) kw157 kw2 kw158 a_X11_isBoard.1 a_X11_isBoard.2 rfl hl.1 (rmk hR (by decide) (by decide)) (Nat.le_of_ble_eq_true rfl) dX10_fewest_1 (fun H locs hH => ?_)
  refine b_if_ne (tgt := 10) hC dX10_fewest_4 (by decide) h (fun h => ?_) (fun h => ?_)
  · refine lv_iconst (v := 0) hC.x hC.b dX10_fewest_10 rfl ?_
    refine lv_istore (lv' := [(5, .int (0 : Int32)), (0, .ref (ad 32)), (1, .int p0), (2, .int p1), (3, .int p2), (4, .int p3)]) hC.x hC.b dX10_fewest_11 hl (by decide) rfl (fun ls hl => ?_)
    obtain ⟨j2, ej2, h⟩ := jn_e h
    have hj2 : ∀ (m8 : gMem) (H : Heap) (locs : List Loc) (ls : Array Slot), (j2 m8) = some (rv, memz) → gH D cy shX ad L (gA ad L) s.heap m8 H locs → lv_has ls 8 [(0, .ref (ad 32)), (1, .int p0), (2, .int p1), (3, .int p2), (4, .int p3)] → W p l e R s m args below meth c H locs 0 0 Q (F0 m 37 ls []) := by
      intro m8 H locs ls h hH hl
      have h := ap1 ej2 h
      refine lv_aload_n hC.x hC.b dX10_fewest_37 rfl (lv_at hl 0 rfl) ?_
      refine r_getc (z := 35) hC hH fl_X10_18_10 (hL _ mX32) sX32 rfl dX10_fewest_38 ?_
      refine lv_iload_n hC.x hC.b dX10_fewest_41 rfl (lv_at hl 1 rfl) ?_
      refine lv_iload_n hC.x hC.b dX10_fewest_42 rfl (lv_at hl 3 rfl) ?_
      refine r_iast hC hF hH (hL _ mX35) sX35 h dX10_fewest_43 (fun m9 H locs h hH => ?_)
      refine lv_iconst (v := 0) hC.x hC.b dX10_fewest_44 rfl ?_
      refine lv_istore (lv' := [(5, .int (0 : Int32)), (0, .ref (ad 32)), (1, .int p0), (2, .int p1), (3, .int p2), (4, .int p3)]) hC.x hC.b dX10_fewest_45 hl (by decide) rfl (fun ls hl => ?_)
      have hl10 : ∀ (n : Nat) (x11 : Int32) (m12 : gMem) (H : Heap) (locs : List Loc) (ls : Array Slot), lq2 (s_X10_fewest_47 L p1 p3) n x11 m12 = some (rv, memz) → gH D cy shX ad L (gA ad L) s.heap m12 H locs → lv_has ls 8 [(0, .ref (ad 32)), (2, .int p1), (4, .int p3), (5, .int x11)] → W p l e R s m args below meth c H locs 0 0 Q (F0 m 47 ls []) := by
        intro n
        induction n with
        | zero => intro x11 m12 H locs ls h _ _; exact lq2_0 h
        | succ n ih10 =>
          intro x11 m12 H locs ls h hH hl
          obtain ⟨self10, es10, h⟩ := lq2_s h
          refine lv_iload hC.x hC.b dX10_fewest_47 (lv_at hl 3 rfl) ?_
          refine lv_bipush (v := 30) hC.x hC.b dX10_fewest_49 rfl ?_
          refine b_ic_gt (tgt := 129) hC dX10_fewest_51 (by decide) h (fun h => ?_) (fun h => ?_)
          · refine lv_bipush (v := -5) hC.x hC.b dX10_fewest_129 rfl ?_
            rw [hQ]
            exact e_i hC hr hH h dX10_fewest_131
          · refine lv_aload_n hC.x hC.b dX10_fewest_54 rfl (lv_at hl 0 rfl) ?_
            refine lv_iload hC.x hC.b dX10_fewest_55 (lv_at hl 3 rfl) ?_
            refine lv_aload_n hC.x hC.b dX10_fewest_57 rfl (lv_at hl 0 rfl) ?_
            refine r_geti hC hH fl_X10_35_10 (hL _ mX32) sX32 rfl dX10_fewest_58 ?_
            obtain ⟨x13, hf13, h⟩ := bd_e h
            refine c_V1 (As := [.int x11, .int (gI m12 32 3)]) (rest := []) (o := 32) (q := (RX10, TX10, 10)) hC hX hE.2.1 hF hH (c_X10_leastAt (l := l) hk hL hE hf13) kw849 kw850 kw851 kw28 kw852 a_X10_leastAt.1 a_X10_leastAt.2 (hL _ mX32) sX32 rfl rfl hl.1 (rmk hR (by decide) (by decide)) (Nat.le_of_ble_eq_true rfl) dX10_fewest_61 (fun H locs hH => ?_)
            refine lv_iconst (v := 3) hC.x hC.b dX10_fewest_64 rfl ?_
            refine b_ic_ge (tgt := 71) hC dX10_fewest_65 (by decide) h (fun h => ?_) (fun h => ?_)
            · refine lv_iload_n hC.x hC.b dX10_fewest_71 rfl (lv_at hl 1 rfl) ?_
              refine lv_iload hC.x hC.b dX10_fewest_72 (lv_at hl 3 rfl) ?_
              refine lv_iadd hC.x hC.b dX10_fewest_74 ?_
              refine lv_aload_n hC.x hC.b dX10_fewest_75 rfl (lv_at hl 0 rfl) ?_
              refine r_geti hC hH fl_X10_27_10 (hL _ mX32) sX32 rfl dX10_fewest_76 ?_
              refine lv_iadd hC.x hC.b dX10_fewest_79 ?_
              refine lv_bipush (v := 12) hC.x hC.b dX10_fewest_80 rfl ?_
              obtain ⟨x14, hf14, h⟩ := bd_e h
              refine c_S1 (As := [.int ((p1 + x11) + (gI m12 32 2)), .int (12 : Int32)]) (rest := []) hC hX hE.2.1 hF hH (c_J9_floorMod_7cf53 (l := l) hk hL hE hf14) kw832 kw366 kw310 kw368 a_J9_floorMod_7cf53.1 a_J9_floorMod_7cf53.2 rfl hl.1 (rmk hR (by decide) (by decide)) (Nat.le_of_ble_eq_true rfl) dX10_fewest_82 (fun H locs hH => ?_)
              refine lv_istore (lv' := [(6, .int x14), (0, .ref (ad 32)), (2, .int p1), (4, .int p3), (5, .int x11)]) hC.x hC.b dX10_fewest_85 hl (by decide) rfl (fun ls hl => ?_)
              refine lv_iconst (v := 0) hC.x hC.b dX10_fewest_87 rfl ?_
              refine lv_istore (lv' := [(7, .int (0 : Int32)), (6, .int x14), (0, .ref (ad 32)), (2, .int p1), (4, .int p3), (5, .int x11)]) hC.x hC.b dX10_fewest_88 hl (by decide) rfl (fun ls hl => ?_)
              obtain ⟨j15, ej15, h⟩ := jn_e h
              have hj15 : ∀ (m21 : gMem) (H : Heap) (locs : List Loc) (ls : Array Slot), (j15 m21) = some (rv, memz) → gH D cy shX ad L (gA ad L) s.heap m21 H locs → lv_has ls 8 [(0, .ref (ad 32)), (2, .int p1), (4, .int p3), (5, .int x11)] → W p l e R s m args below meth c H locs 0 0 Q (F0 m 123 ls []) := by
                intro m21 H locs ls h hH hl
                have h := ap1 ej15 h
                refine i_inc (lv' := fun x22 => [(5, .int x22), (0, .ref (ad 32)), (2, .int p1), (4, .int p3)]) hC dX10_fewest_123 hl (k := 3) rfl (by decide) (fun _ => rfl) (z := 1) rfl h (fun x22 ls h hl => ?_)
                refine lv_goto (tgt := 47) hC.x hC.b dX10_fewest_126 (by decide) ?_
                exact ih10 x22 m21 H locs ls (ap2 es10 h) hH (lv_sub hl [1, 2, 3, 0] rfl)
              clear ej15
              have hl16 : ∀ (n : Nat) (x17 : Int32) (m18 : gMem) (H : Heap) (locs : List Loc) (ls : Array Slot), lq2 (s_X10_fewest_90 j15 x14 L x11 p3) n x17 m18 = some (rv, memz) → gH D cy shX ad L (gA ad L) s.heap m18 H locs → lv_has ls 8 [(0, .ref (ad 32)), (2, .int p1), (4, .int p3), (5, .int x11), (6, .int x14), (7, .int x17)] → W p l e R s m args below meth c H locs 0 0 Q (F0 m 90 ls []) := by
                intro n
                induction n with
                | zero => intro x17 m18 H locs ls h _ _; exact lq2_0 h
                | succ n ih16 =>
                  intro x17 m18 H locs ls h hH hl
                  obtain ⟨self16, es16, h⟩ := lq2_s h
                  refine lv_iload hC.x hC.b dX10_fewest_90 (lv_at hl 5 rfl) ?_
                  refine lv_bipush (v := 12) hC.x hC.b dX10_fewest_92 rfl ?_
                  refine b_ic_ge (tgt := 123) hC dX10_fewest_94 (by decide) h (fun h => ?_) (fun h => ?_)
                  · exact hj15 m18 H locs ls h hH (lv_sub hl [0, 1, 2, 3] rfl)
                  · refine lv_aload_n hC.x hC.b dX10_fewest_97 rfl (lv_at hl 0 rfl) ?_
                    refine lv_iload hC.x hC.b dX10_fewest_98 (lv_at hl 3 rfl) ?_
                    refine lv_iload hC.x hC.b dX10_fewest_100 (lv_at hl 5 rfl) ?_
                    refine lv_iload hC.x hC.b dX10_fewest_102 (lv_at hl 4 rfl) ?_
                    refine lv_aload_n hC.x hC.b dX10_fewest_104 rfl (lv_at hl 0 rfl) ?_
                    refine r_getc (z := 34) hC hH fl_X10_15_10 (hL _ mX32) sX32 rfl dX10_fewest_105 ?_
                    refine lv_iload hC.x hC.b dX10_fewest_108 (lv_at hl 4 rfl) ?_
                    refine r_iald hC hH (hL _ mX34) sX34 h dX10_fewest_110 (fun h => ?_)
                    refine lv_iload hC.x hC.b dX10_fewest_111 (lv_at hl 2 rfl) ?_
                    refine lv_iadd hC.x hC.b dX10_fewest_113 ?_
                    obtain ⟨m19, hf19, h⟩ := bd_e h
                    refine c_V0 (As := [.int x11, .int x17, .int x14, .int ((gI m18 34 (ix x14)) + p3)]) (rest := []) (o := 32) (q := (RX10, TX10, 10)) hC hX hE.2.1 hF hH (c_X10_spread (l := l) hk hL hE hf19) kw853 kw854 kw855 kw28 kw856 a_X10_spread.1 a_X10_spread.2 (hL _ mX32) sX32 rfl rfl hl.1 (rmk hR (by decide) (by decide)) (Nat.le_of_ble_eq_true rfl) dX10_fewest_114 (fun H locs hH => ?_)
                    refine i_inc (lv' := fun x20 => [(7, .int x20), (0, .ref (ad 32)), (2, .int p1), (4, .int p3), (5, .int x11), (6, .int x14)]) hC dX10_fewest_117 hl (k := 5) rfl (by decide) (fun _ => rfl) (z := 1) rfl h (fun x20 ls h hl => ?_)
                    refine lv_goto (tgt := 90) hC.x hC.b dX10_fewest_120 (by decide) ?_
                    exact ih16 x20 m19 H locs ls (ap2 es16 h) hH (lv_sub hl [1, 2, 3, 4, 5, 0] rfl)
              exact hl16 _ (0 : Int32) m12 H locs ls h hH (lv_sub hl [2, 3, 4, 5, 1, 0] rfl)
            · refine lv_iload hC.x hC.b dX10_fewest_68 (lv_at hl 3 rfl) ?_
              rw [hQ]
              exact e_i hC hr hH h dX10_fewest_70
      exact hl10 _ (0 : Int32) m9 H locs ls h hH (lv_sub hl [1, 3, 5, 0] rfl)
    clear ej2
    have hl3 : ∀ (n : Nat) (x4 : Int32) (m5 : gMem) (H : Heap) (locs : List Loc) (ls : Array Slot), lq2 (s_X10_fewest_13 j2) n x4 m5 = some (rv, memz) → gH D cy shX ad L (gA ad L) s.heap m5 H locs → lv_has ls 8 [(0, .ref (ad 32)), (1, .int p0), (2, .int p1), (3, .int p2), (4, .int p3), (5, .int x4)] → W p l e R s m args below meth c H locs 0 0 Q (F0 m 13 ls []) := by
      intro n
      induction n with
      | zero => intro x4 m5 H locs ls h _ _; exact lq2_0 h
      | succ n ih3 =>
        intro x4 m5 H locs ls h hH hl
        obtain ⟨self3, es3, h⟩ := lq2_s h
        refine lv_iload hC.x hC.b dX10_fewest_13 (lv_at hl 5 rfl) ?_
        refine lv_aload_n hC.x hC.b dX10_fewest_15 rfl (lv_at hl 0 rfl) ?_
        refine r_getc (z := 35) hC hH fl_X10_18_10 (hL _ mX32) sX32 rfl dX10_fewest_16 ?_
        refine r_alen (t := 0) hC hH (hL _ mX35) sX35 (v := 372) rfl dX10_fewest_19 ?_
        refine b_ic_ge (tgt := 37) hC dX10_fewest_20 (by decide) h (fun h => ?_) (fun h => ?_)
        · exact hj2 m5 H locs ls h hH (lv_sub hl [0, 1, 2, 3, 4] rfl)
        · refine lv_aload_n hC.x hC.b dX10_fewest_23 rfl (lv_at hl 0 rfl) ?_
          refine r_getc (z := 35) hC hH fl_X10_18_10 (hL _ mX32) sX32 rfl dX10_fewest_24 ?_
          refine lv_iload hC.x hC.b dX10_fewest_27 (lv_at hl 5 rfl) ?_
          refine lv_iconst (v := 3) hC.x hC.b dX10_fewest_29 rfl ?_
          refine r_iast hC hF hH (hL _ mX35) sX35 h dX10_fewest_30 (fun m6 H locs h hH => ?_)
          refine i_inc (lv' := fun x7 => [(5, .int x7), (0, .ref (ad 32)), (1, .int p0), (2, .int p1), (3, .int p2), (4, .int p3)]) hC dX10_fewest_31 hl (k := 5) rfl (by decide) (fun _ => rfl) (z := 1) rfl h (fun x7 ls h hl => ?_)
          refine lv_goto (tgt := 13) hC.x hC.b dX10_fewest_34 (by decide) ?_
          exact ih3 x7 m6 H locs ls (ap2 es3 h) hH (lv_sub hl [1, 2, 3, 4, 5, 0] rfl)
    exact hl3 _ (0 : Int32) mem H locs ls h hH (lv_sub hl [1, 2, 3, 4, 5, 0] rfl)
  · refine lv_bipush (v := -5) hC.x hC.b dX10_fewest_7 rfl ?_
    rw [hQ]
    exact e_i hC hr hH h dX10_fewest_9
def f_X10_seekQuietest (L : List Nat) (mem : gMem) (p0 : Int32) (p1 : Int32) : Option gMem := lt1 (gsI mem 32 8 (1000000 : Int32)) fun (m1 : gMem) => lt1 (gsI m1 32 9 (0 : Int32)) fun (m2 : gMem) => bd (f_X10_seekAt L m2 p0 p1 ((1 : Int32) <<< (p0 &&& 31)) (0 : Int32) (0 : Int32)) fun (m3 : gMem) => some m3
set_option maxRecDepth 100000 in
set_option maxHeartbeats 4000000 in
theorem c_X10_seekQuietest {l : Launch} {E : State → Prop} {D : va_G} {cy : Nat → ClassId} {ad : Nat → Nat} {L : List Nat} {mem : gMem} {p0 : Int32} {p1 : Int32} {memz : gMem} (hk : gOk ad L) (hL : ∀ o ∈ LX0, o ∈ L) (hE : gEok ad L E)  (h : f_X10_seekQuietest L mem p0 p1 = some memz) : gMet l yX10_seekQuietest cX10_seekQuietest 3 none 193 3865 E D cy shX ad L [.ref (ad 32), .int p0, .int p1] mem memz none := by
  refine g_go (own := RX10) (by decide +kernel) rfl hE (Nat.le_of_ble_eq_true rfl) ?_
  intro p e s m args below meth c R Q hargs hR hQ hEs hC hr hX H locs ls hH hl
  have hF := gF_of hk
  have hl : lv_has ls 3 [(0, .ref (ad 32)), (1, .int p0), (2, .int p1)] := hl
  refine lv_aload_n hC.x hC.b dX10_seekQuietest_0 rfl (lv_at hl 0 rfl) ?_
  refine lv_ldc (v := 1000000) hC.x hC.b hC.ow (hC.ts _ kw891) dX10_seekQuietest_1 ?_
  refine r_puti hC hF hH pl_X10_112_10 (hL _ mX32) sX32 rfl h dX10_seekQuietest_3 (fun m1 H locs h hH => ?_)
  refine lv_aload_n hC.x hC.b dX10_seekQuietest_6 rfl (lv_at hl 0 rfl) ?_
  refine lv_iconst (v := 0) hC.x hC.b dX10_seekQuietest_7 rfl ?_
  refine r_puti hC hF hH pl_X10_115_10 (hL _ mX32) sX32 rfl h dX10_seekQuietest_8 (fun m2 H locs h hH => ?_)
  refine lv_aload_n hC.x hC.b dX10_seekQuietest_11 rfl (lv_at hl 0 rfl) ?_
  refine lv_iload_n hC.x hC.b dX10_seekQuietest_12 rfl (lv_at hl 1 rfl) ?_
  refine lv_iload_n hC.x hC.b dX10_seekQuietest_13 rfl (lv_at hl 2 rfl) ?_
  refine lv_iconst (v := 1) hC.x hC.b dX10_seekQuietest_14 rfl ?_
  refine lv_iload_n hC.x hC.b dX10_seekQuietest_15 rfl (lv_at hl 1 rfl) ?_
  refine lv_ishl hC.x hC.b dX10_seekQuietest_16 ?_
  refine lv_iconst (v := 0) hC.x hC.b dX10_seekQuietest_17 rfl ?_
  refine lv_iconst (v := 0) hC.x hC.b dX10_seekQuietest_18 rfl ?_
  obtain ⟨m3, hf3, h⟩ := bd_e h
  refine c_V0 (As := [.int p0, .int p1, .int ((1 : Int32) <<< (p0 &&& 31)), .int (0 : Int32), .int (0 : Int32)]) (rest := []) (o := 32) (q := (RX10, TX10, 10)) hC hX hE.2.1 hF hH (c_X10_seekAt (l := l) hk hL hE hf3) kw894 kw895 kw896 kw28 kw897 a_X10_seekAt.1 a_X10_seekAt.2 (hL _ mX32) sX32 rfl rfl hl.1 (rmk hR (by decide) (by decide)) (Nat.le_of_ble_eq_true rfl) dX10_seekQuietest_19 (fun H locs hH => ?_)
  rw [hQ]
  exact e_v hC hr hH h dX10_seekQuietest_22

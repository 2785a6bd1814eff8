theorem a_X4_readBoth : noMH yX4_readBoth.cls ∧ arity yX4_readBoth.desc 1 := by decide +kernel
theorem a_X4_readFactor : noMH yX4_readFactor.cls ∧ arity yX4_readFactor.desc 1 := by decide +kernel
theorem a_X4_readNot : noMH yX4_readNot.cls ∧ arity yX4_readNot.desc 1 := by decide +kernel
theorem a_X4_readGroup : noMH yX4_readGroup.cls ∧ arity yX4_readGroup.desc 1 := by decide +kernel
theorem a_X4_readTest : noMH yX4_readTest.cls ∧ arity yX4_readTest.desc 0 := by decide +kernel
theorem a_X4_readEither : noMH yX4_readEither.cls ∧ arity yX4_readEither.desc 1 := by decide +kernel
def s_X4_readEither_8 (L : List Nat) (rec : Nat → gMem → Int32 → Option (Int32 × gMem)) (p0 : Int32) (self3 : Int32 → Int32 → gMem → Option (Int32 × gMem)) (x4 : Int32) (x5 : Int32) (m6 : gMem) : Option (Int32 × gMem) := if (100 : Int32) ≤ x5 then (if isB x4 then some (x4, m6) else none) else if x4 = 0 then (if isB x4 then some (x4, m6) else none) else bd (f_X4_sign L m6) fun (x7 : Int32) => if x7 = (124 : Int32) then (lt1 (gsI m6 30 2 ((gI m6 30 2) + (1 : Int32))) fun (m8 : gMem) => bd2 (rec 1 m8 p0) fun (x10 : Int32) (m9 : gMem) => oc (gR m9 30 3) none fun g11 => if isN g11 then bd (f_X3_addCode L m9 g11 (-3 : Int32)) fun (m12 : gMem) => lt1 (x5 + (1 : Int32)) fun (x13 : Int32) => (self3 x10 x13 m12) else none) else if isB x4 then some (x4, m6) else none
def b_X4_readEither (L : List Nat) (rec : Nat → gMem → Int32 → Option (Int32 × gMem)) (mem : gMem) (p0 : Int32) : Option (Int32 × gMem) := bd2 (rec 1 mem p0) fun (x2 : Int32) (m1 : gMem) => lq3 (s_X4_readEither_8 L rec p0) 1000 x2 (0 : Int32) m1
set_option maxRecDepth 100000 in
set_option maxHeartbeats 4000000 in
theorem cb_X4_readEither {l : Launch} {E : State → Prop} {D : va_G} {cy : Nat → ClassId} {ad : Nat → Nat} {L : List Nat} {rec : Nat → gMem → Int32 → Option (Int32 × gMem)} {frr lor : Nat} {adK adV : Nat → Nat} {mem : gMem} {p0 : Int32} {rv : Int32} {memz : gMem} (hk : gOk ad L) (hL : ∀ o ∈ LX0, o ∈ L) (hE : gEok ad L E) (hSs : ∀ s : State, E s → gS (gA ad L) adK adV s) (hrec0 : ∀ (mem : gMem) (p0 : Int32) (rv : Int32) (memz : gMem), rec 0 mem p0 = some (rv, memz) → gMet l yX4_readEither cX4_readEither 4 (some .boolean) frr lor E D cy shX ad L [.ref (ad 30), .int p0] mem memz (some (.int rv))) (hrec1 : ∀ (mem : gMem) (p0 : Int32) (rv : Int32) (memz : gMem), rec 1 mem p0 = some (rv, memz) → gMet l yX4_readBoth cX4_readBoth 4 (some .boolean) frr lor E D cy shX ad L [.ref (ad 30), .int p0] mem memz (some (.int rv))) (hrec2 : ∀ (mem : gMem) (p0 : Int32) (rv : Int32) (memz : gMem), rec 2 mem p0 = some (rv, memz) → gMet l yX4_readFactor cX4_readFactor 2 (some .boolean) frr lor E D cy shX ad L [.ref (ad 30), .int p0] mem memz (some (.int rv))) (hrec3 : ∀ (mem : gMem) (p0 : Int32) (rv : Int32) (memz : gMem), rec 3 mem p0 = some (rv, memz) → gMet l yX4_readNot cX4_readNot 3 (some .boolean) frr lor E D cy shX ad L [.ref (ad 30), .int p0] mem memz (some (.int rv))) (hrec4 : ∀ (mem : gMem) (p0 : Int32) (rv : Int32) (memz : gMem), rec 4 mem p0 = some (rv, memz) → gMet l yX4_readGroup cX4_readGroup 2 (some .boolean) frr lor E D cy shX ad L [.ref (ad 30), .int p0] mem memz (some (.int rv))) (h : b_X4_readEither L rec mem p0 = some (rv, memz)) : gMet l yX4_readEither cX4_readEither 4 (some .boolean) (frr + 8) (lor + 160) E D cy shX ad L [.ref (ad 30), .int p0] mem memz (some (.int rv)) := by
  refine g_go (own := RX4) (by decide +kernel) rfl hE (Nat.le_of_ble_eq_true rfl) ?_
  intro p e s m args below meth c R Q hargs hR hQ hEs hC hr hX H locs ls hH hl
  have hF := gF_of hk
  have hl : lv_has ls 4 [(0, .ref (ad 30)), (1, .int p0)] := hl
  refine lv_aload_n hC.x hC.b dX4_readEither_0 rfl (lv_at hl 0 rfl) ?_
  refine lv_iload_n hC.x hC.b dX4_readEither_1 rfl (lv_at hl 1 rfl) ?_
  obtain ⟨x2, m1, hf2, h⟩ := bd2_e h
  refine c_V1 (As := [.int p0]) (rest := []) (o := 30) (q := (RX4, TX4, 4)) hC hX hE.2.1 hF hH (hrec1 _ _ _ _ hf2) kw539 kw540 kw541 kw24 kw546 a_X4_readBoth.1 a_X4_readBoth.2 (hL _ mX30) sX30 rfl rfl hl.1 (rmk hR (by omega) (by omega)) (Nat.le_of_ble_eq_true rfl) dX4_readEither_2 (fun H locs hH => ?_)
  refine lv_istore_n (lv' := [(2, .int x2), (0, .ref (ad 30)), (1, .int p0)]) hC.x hC.b dX4_readEither_5 rfl hl (by decide) rfl (fun ls hl => ?_)
  refine lv_iconst (v := 0) hC.x hC.b dX4_readEither_6 rfl ?_
  refine lv_istore_n (lv' := [(3, .int (0 : Int32)), (2, .int x2), (0, .ref (ad 30)), (1, .int p0)]) hC.x hC.b dX4_readEither_7 rfl hl (by decide) rfl (fun ls hl => ?_)
  have hl3 : ∀ (n : Nat) (x4 : Int32) (x5 : Int32) (m6 : gMem) (H : Heap) (locs : List Loc) (ls : Array Slot), lq3 (s_X4_readEither_8 L rec p0) n x4 x5 m6 = some (rv, memz) → gH D cy shX ad L (gA ad L) s.heap m6 H locs → lv_has ls 4 [(0, .ref (ad 30)), (1, .int p0), (2, .int x4), (3, .int x5)] → W p l e R s m args below meth c H locs 0 0 Q (F0 m 8 ls []) := by
    intro n
    induction n with
    | zero => intro x4 x5 m6 H locs ls h _ _; exact lq3_0 h
    | succ n ih3 =>
      intro x4 x5 m6 H locs ls h hH hl
      obtain ⟨self3, es3, h⟩ := lq3_s h
      refine lv_iload_n hC.x hC.b dX4_readEither_8 rfl (lv_at hl 3 rfl) ?_
      refine lv_bipush (v := 100) hC.x hC.b dX4_readEither_9 rfl ?_
      refine b_ic_ge (tgt := 58) hC dX4_readEither_11 (by decide) h (fun h => ?_) (fun h => ?_)
      · refine lv_iload_n hC.x hC.b dX4_readEither_58 rfl (lv_at hl 2 rfl) ?_
        rw [hQ]
        exact e_z hC hr hH h dX4_readEither_59
      · refine lv_iload_n hC.x hC.b dX4_readEither_14 rfl (lv_at hl 2 rfl) ?_
        refine b_if_eq (tgt := 58) hC dX4_readEither_15 (by decide) h (fun h => ?_) (fun h => ?_)
        · refine lv_iload_n hC.x hC.b dX4_readEither_58 rfl (lv_at hl 2 rfl) ?_
          rw [hQ]
          exact e_z hC hr hH h dX4_readEither_59
        · refine lv_aload_n hC.x hC.b dX4_readEither_18 rfl (lv_at hl 0 rfl) ?_
          obtain ⟨x7, hf7, h⟩ := bd_e h
          refine c_V1 (As := []) (rest := []) (o := 30) (q := (RX4, TX4, 4)) hC hX hE.2.1 hF hH (c_X4_sign (l := l) hk hL hE hf7) kw469 kw470 kw471 kw24 kw472 a_X4_sign.1 a_X4_sign.2 (hL _ mX30) sX30 rfl rfl hl.1 (rmk hR (by omega) (by omega)) (Nat.le_of_ble_eq_true rfl) dX4_readEither_19 (fun H locs hH => ?_)
          refine lv_bipush (v := 124) hC.x hC.b dX4_readEither_22 rfl ?_
          refine b_ic_ne (tgt := 58) hC dX4_readEither_24 (by decide) h (fun h => ?_) (fun h => ?_)
          · refine lv_iload_n hC.x hC.b dX4_readEither_58 rfl (lv_at hl 2 rfl) ?_
            rw [hQ]
            exact e_z hC hr hH h dX4_readEither_59
          · refine lv_aload_n hC.x hC.b dX4_readEither_27 rfl (lv_at hl 0 rfl) ?_
            refine lv_dup hC.x hC.b dX4_readEither_28 rfl ?_
            refine r_geti hC hH fl_X4_19_4 (hL _ mX30) sX30 rfl dX4_readEither_29 ?_
            refine lv_iconst (v := 1) hC.x hC.b dX4_readEither_32 rfl ?_
            refine lv_iadd hC.x hC.b dX4_readEither_33 ?_
            refine r_puti hC hF hH pl_X4_19_4 (hL _ mX30) sX30 rfl h dX4_readEither_34 (fun m8 H locs h hH => ?_)
            refine lv_aload_n hC.x hC.b dX4_readEither_37 rfl (lv_at hl 0 rfl) ?_
            refine lv_iload_n hC.x hC.b dX4_readEither_38 rfl (lv_at hl 1 rfl) ?_
            obtain ⟨x10, m9, hf10, h⟩ := bd2_e h
            refine c_V1 (As := [.int p0]) (rest := []) (o := 30) (q := (RX4, TX4, 4)) hC hX hE.2.1 hF hH (hrec1 _ _ _ _ hf10) kw539 kw540 kw541 kw24 kw546 a_X4_readBoth.1 a_X4_readBoth.2 (hL _ mX30) sX30 rfl rfl hl.1 (rmk hR (by omega) (by omega)) (Nat.le_of_ble_eq_true rfl) dX4_readEither_39 (fun H locs hH => ?_)
            refine lv_istore_n (lv' := [(2, .int x10), (0, .ref (ad 30)), (1, .int p0), (3, .int x5)]) hC.x hC.b dX4_readEither_42 rfl hl (by decide) rfl (fun ls hl => ?_)
            refine lv_aload_n hC.x hC.b dX4_readEither_43 rfl (lv_at hl 1 rfl) ?_
            refine r_getr hC hH fl_X4_22_4 (hL _ mX30) sX30 rfl dX4_readEither_44 ?_
            refine d_top h (fun g11 hyg11 h => ?_)
            obtain ⟨hNg11, h⟩ := chk h
            refine lv_bipush (v := -3) hC.x hC.b dX4_readEither_47 rfl ?_
            obtain ⟨m12, hf12, h⟩ := bd_e h
            refine c_V0 (As := [.int (-3 : Int32)]) (rest := []) (o := g11) (q := (RX3, TX3, 6)) hC hX hE.2.1 hF hH (c_X3_addCode (l := l) hk hL hE hNg11 hf12) kw542 kw543 kw544 kw38 kw545 a_X3_addCode.1 a_X3_addCode.2 (hL _ (mN hNg11 (k := 0) (by decide))) (sN0 hNg11) rfl rfl hl.1 (rmk hR (by omega) (by omega)) (Nat.le_of_ble_eq_true rfl) dX4_readEither_49 (fun H locs hH => ?_)
            refine i_inc (lv' := fun x13 => [(3, .int x13), (2, .int x10), (0, .ref (ad 30)), (1, .int p0)]) hC dX4_readEither_52 hl (k := 3) rfl (by decide) (fun _ => rfl) (z := 1) rfl h (fun x13 ls h hl => ?_)
            refine lv_goto (tgt := 8) hC.x hC.b dX4_readEither_55 (by decide) ?_
            exact ih3 x10 x13 m12 H locs ls (ap3 es3 h) hH (lv_sub hl [2, 3, 1, 0] rfl)
  exact hl3 _ x2 (0 : Int32) m1 H locs ls h hH (lv_sub hl [2, 3, 1, 0] rfl)
def s_X4_readBoth_8 (L : List Nat) (rec : Nat → gMem → Int32 → Option (Int32 × gMem)) (p0 : Int32) (self3 : Int32 → Int32 → gMem → Option (Int32 × gMem)) (x4 : Int32) (x5 : Int32) (m6 : gMem) : Option (Int32 × gMem) := if (100 : Int32) ≤ x5 then (if isB x4 then some (x4, m6) else none) else if x4 = 0 then (if isB x4 then some (x4, m6) else none) else bd (f_X4_sign L m6) fun (x7 : Int32) => if x7 = (38 : Int32) then (lt1 (gsI m6 30 2 ((gI m6 30 2) + (1 : Int32))) fun (m8 : gMem) => bd2 (rec 2 m8 p0) fun (x10 : Int32) (m9 : gMem) => oc (gR m9 30 3) none fun g11 => if isN g11 then bd (f_X3_addCode L m9 g11 (-2 : Int32)) fun (m12 : gMem) => lt1 (x5 + (1 : Int32)) fun (x13 : Int32) => (self3 x10 x13 m12) else none) else if isB x4 then some (x4, m6) else none
def b_X4_readBoth (L : List Nat) (rec : Nat → gMem → Int32 → Option (Int32 × gMem)) (mem : gMem) (p0 : Int32) : Option (Int32 × gMem) := bd2 (rec 2 mem p0) fun (x2 : Int32) (m1 : gMem) => lq3 (s_X4_readBoth_8 L rec p0) 1000 x2 (0 : Int32) m1
set_option maxRecDepth 100000 in
set_option maxHeartbeats 4000000 in
theorem cb_X4_readBoth {l : Launch} {E : State → Prop} {D : va_G} {cy : Nat → ClassId} {ad : Nat → Nat} {L : List Nat} {rec : Nat → gMem → Int32 → Option (Int32 × gMem)} {frr lor : Nat} {adK adV : Nat → Nat} {mem : gMem} {p0 : Int32} {rv : Int32} {memz : gMem} (hk : gOk ad L) (hL : ∀ o ∈ LX0, o ∈ L) (hE : gEok ad L E) (hSs : ∀ s : State, E s → gS (gA ad L) adK adV s) (hrec0 : ∀ (mem : gMem) (p0 : Int32) (rv : Int32) (memz : gMem), rec 0 mem p0 = some (rv, memz) → gMet l yX4_readEither cX4_readEither 4 (some .boolean) frr lor E D cy shX ad L [.ref (ad 30), .int p0] mem memz (some (.int rv))) (hrec1 : ∀ (mem : gMem) (p0 : Int32) (rv : Int32) (memz : gMem), rec 1 mem p0 = some (rv, memz) → gMet l yX4_readBoth cX4_readBoth 4 (some .boolean) frr lor E D cy shX ad L [.ref (ad 30), .int p0] mem memz (some (.int rv))) (hrec2 : ∀ (mem : gMem) (p0 : Int32) (rv : Int32) (memz : gMem), rec 2 mem p0 = some (rv, memz) → gMet l yX4_readFactor cX4_readFactor 2 (some .boolean) frr lor E D cy shX ad L [.ref (ad 30), .int p0] mem memz (some (.int rv))) (hrec3 : ∀ (mem : gMem) (p0 : Int32) (rv : Int32) (memz : gMem), rec 3 mem p0 = some (rv, memz) → gMet l yX4_readNot cX4_readNot 3 (some .boolean) frr lor E D cy shX ad L [.ref (ad 30), .int p0] mem memz (some (.int rv))) (hrec4 : ∀ (mem : gMem) (p0 : Int32) (rv : Int32) (memz : gMem), rec 4 mem p0 = some (rv, memz) → gMet l yX4_readGroup cX4_readGroup 2 (some .boolean) frr lor E D cy shX ad L [.ref (ad 30), .int p0] mem memz (some (.int rv))) (h : b_X4_readBoth L rec mem p0 = some (rv, memz)) : gMet l yX4_readBoth cX4_readBoth 4 (some .boolean) (frr + 8) (lor + 160) E D cy shX ad L [.ref (ad 30), .int p0] mem memz (some (.int rv)) := by
  refine g_go (own := RX4) (by decide +kernel) rfl hE (Nat.le_of_ble_eq_true rfl) ?_
  intro p e s m args below meth c R Q hargs hR hQ hEs hC hr hX H locs ls hH hl
  have hF := gF_of hk
  have hl : lv_has ls 4 [(0, .ref (ad 30)), (1, .int p0)] := hl
  refine lv_aload_n hC.x hC.b dX4_readBoth_0 rfl (lv_at hl 0 rfl) ?_
  refine lv_iload_n hC.x hC.b dX4_readBoth_1 rfl (lv_at hl 1 rfl) ?_
  obtain ⟨x2, m1, hf2, h⟩ := bd2_e h
  refine c_V1 (As := [.int p0]) (rest := []) (o := 30) (q := (RX4, TX4, 4)) hC hX hE.2.1 hF hH (hrec2 _ _ _ _ hf2) kw547 kw548 kw549 kw24 kw550 a_X4_readFactor.1 a_X4_readFactor.2 (hL _ mX30) sX30 rfl rfl hl.1 (rmk hR (by omega) (by omega)) (Nat.le_of_ble_eq_true rfl) dX4_readBoth_2 (fun H locs hH => ?_)
  refine lv_istore_n (lv' := [(2, .int x2), (0, .ref (ad 30)), (1, .int p0)]) hC.x hC.b dX4_readBoth_5 rfl hl (by decide) rfl (fun ls hl => ?_)
  refine lv_iconst (v := 0) hC.x hC.b dX4_readBoth_6 rfl ?_
  refine lv_istore_n (lv' := [(3, .int (0 : Int32)), (2, .int x2), (0, .ref (ad 30)), (1, .int p0)]) hC.x hC.b dX4_readBoth_7 rfl hl (by decide) rfl (fun ls hl => ?_)
  have hl3 : ∀ (n : Nat) (x4 : Int32) (x5 : Int32) (m6 : gMem) (H : Heap) (locs : List Loc) (ls : Array Slot), lq3 (s_X4_readBoth_8 L rec p0) n x4 x5 m6 = some (rv, memz) → gH D cy shX ad L (gA ad L) s.heap m6 H locs → lv_has ls 4 [(0, .ref (ad 30)), (1, .int p0), (2, .int x4), (3, .int x5)] → W p l e R s m args below meth c H locs 0 0 Q (F0 m 8 ls []) := by
    intro n
    induction n with
    | zero => intro x4 x5 m6 H locs ls h _ _; exact lq3_0 h
    | succ n ih3 =>
      intro x4 x5 m6 H locs ls h hH hl
      obtain ⟨self3, es3, h⟩ := lq3_s h
      refine lv_iload_n hC.x hC.b dX4_readBoth_8 rfl (lv_at hl 3 rfl) ?_
      refine lv_bipush (v := 100) hC.x hC.b dX4_readBoth_9 rfl ?_
      refine b_ic_ge (tgt := 58) hC dX4_readBoth_11 (by decide) h (fun h => ?_) (fun h => ?_)
      · refine lv_iload_n hC.x hC.b dX4_readBoth_58 rfl (lv_at hl 2 rfl) ?_
        rw [hQ]
        exact e_z hC hr hH h dX4_readBoth_59
      · refine lv_iload_n hC.x hC.b dX4_readBoth_14 rfl (lv_at hl 2 rfl) ?_
        refine b_if_eq (tgt := 58) hC dX4_readBoth_15 (by decide) h (fun h => ?_) (fun h => ?_)
        · refine lv_iload_n hC.x hC.b dX4_readBoth_58 rfl (lv_at hl 2 rfl) ?_
          rw [hQ]
          exact e_z hC hr hH h dX4_readBoth_59
        · refine lv_aload_n hC.x hC.b dX4_readBoth_18 rfl (lv_at hl 0 rfl) ?_
          obtain ⟨x7, hf7, h⟩ := bd_e h
          refine c_V1 (As := []) (rest := []) (o := 30) (q := (RX4, TX4, 4)) hC hX hE.2.1 hF hH (c_X4_sign (l := l) hk hL hE hf7) kw469 kw470 kw471 kw24 kw472 a_X4_sign.1 a_X4_sign.2 (hL _ mX30) sX30 rfl rfl hl.1 (rmk hR (by omega) (by omega)) (Nat.le_of_ble_eq_true rfl) dX4_readBoth_19 (fun H locs hH => ?_)
          refine lv_bipush (v := 38) hC.x hC.b dX4_readBoth_22 rfl ?_
          refine b_ic_ne (tgt := 58) hC dX4_readBoth_24 (by decide) h (fun h => ?_) (fun h => ?_)
          · refine lv_iload_n hC.x hC.b dX4_readBoth_58 rfl (lv_at hl 2 rfl) ?_
            rw [hQ]
            exact e_z hC hr hH h dX4_readBoth_59
          · refine lv_aload_n hC.x hC.b dX4_readBoth_27 rfl (lv_at hl 0 rfl) ?_
            refine lv_dup hC.x hC.b dX4_readBoth_28 rfl ?_
            refine r_geti hC hH fl_X4_19_4 (hL _ mX30) sX30 rfl dX4_readBoth_29 ?_
            refine lv_iconst (v := 1) hC.x hC.b dX4_readBoth_32 rfl ?_
            refine lv_iadd hC.x hC.b dX4_readBoth_33 ?_
            refine r_puti hC hF hH pl_X4_19_4 (hL _ mX30) sX30 rfl h dX4_readBoth_34 (fun m8 H locs h hH => ?_)
            refine lv_aload_n hC.x hC.b dX4_readBoth_37 rfl (lv_at hl 0 rfl) ?_
            refine lv_iload_n hC.x hC.b dX4_readBoth_38 rfl (lv_at hl 1 rfl) ?_
            obtain ⟨x10, m9, hf10, h⟩ := bd2_e h
            refine c_V1 (As := [.int p0]) (rest := []) (o := 30) (q := (RX4, TX4, 4)) hC hX hE.2.1 hF hH (hrec2 _ _ _ _ hf10) kw547 kw548 kw549 kw24 kw550 a_X4_readFactor.1 a_X4_readFactor.2 (hL _ mX30) sX30 rfl rfl hl.1 (rmk hR (by omega) (by omega)) (Nat.le_of_ble_eq_true rfl) dX4_readBoth_39 (fun H locs hH => ?_)
            refine lv_istore_n (lv' := [(2, .int x10), (0, .ref (ad 30)), (1, .int p0), (3, .int x5)]) hC.x hC.b dX4_readBoth_42 rfl hl (by decide) rfl (fun ls hl => ?_)
            refine lv_aload_n hC.x hC.b dX4_readBoth_43 rfl (lv_at hl 1 rfl) ?_
            refine r_getr hC hH fl_X4_22_4 (hL _ mX30) sX30 rfl dX4_readBoth_44 ?_
            refine d_top h (fun g11 hyg11 h => ?_)
            obtain ⟨hNg11, h⟩ := chk h
            refine lv_bipush (v := -2) hC.x hC.b dX4_readBoth_47 rfl ?_
            obtain ⟨m12, hf12, h⟩ := bd_e h
            refine c_V0 (As := [.int (-2 : Int32)]) (rest := []) (o := g11) (q := (RX3, TX3, 6)) hC hX hE.2.1 hF hH (c_X3_addCode (l := l) hk hL hE hNg11 hf12) kw542 kw543 kw544 kw38 kw545 a_X3_addCode.1 a_X3_addCode.2 (hL _ (mN hNg11 (k := 0) (by decide))) (sN0 hNg11) rfl rfl hl.1 (rmk hR (by omega) (by omega)) (Nat.le_of_ble_eq_true rfl) dX4_readBoth_49 (fun H locs hH => ?_)
            refine i_inc (lv' := fun x13 => [(3, .int x13), (2, .int x10), (0, .ref (ad 30)), (1, .int p0)]) hC dX4_readBoth_52 hl (k := 3) rfl (by decide) (fun _ => rfl) (z := 1) rfl h (fun x13 ls h hl => ?_)
            refine lv_goto (tgt := 8) hC.x hC.b dX4_readBoth_55 (by decide) ?_
            exact ih3 x10 x13 m12 H locs ls (ap3 es3 h) hH (lv_sub hl [2, 3, 1, 0] rfl)
  exact hl3 _ x2 (0 : Int32) m1 H locs ls h hH (lv_sub hl [2, 3, 1, 0] rfl)
def b_X4_readFactor (L : List Nat) (rec : Nat → gMem → Int32 → Option (Int32 × gMem)) (mem : gMem) (p0 : Int32) : Option (Int32 × gMem) := bd (f_X4_sign L mem) fun (x1 : Int32) => if x1 = 33 then (if (4 : Int32) ≤ p0 then (some ((0 : Int32), mem)) else bd2 (rec 3 mem (p0 + (1 : Int32))) fun (x3 : Int32) (m2 : gMem) => if x3 = 0 then (some ((0 : Int32), m2)) else some ((1 : Int32), m2)) else if x1 = 40 then (if (4 : Int32) ≤ p0 then (some ((0 : Int32), mem)) else bd2 (rec 4 mem (p0 + (1 : Int32))) fun (x5 : Int32) (m4 : gMem) => if x5 = 0 then (some ((0 : Int32), m4)) else some ((1 : Int32), m4)) else bd2 (f_X4_readTest L mem) fun (x7 : Int32) (m6 : gMem) => if isB x7 then some (x7, m6) else none
set_option maxRecDepth 100000 in
set_option maxHeartbeats 4000000 in
theorem cb_X4_readFactor {l : Launch} {E : State → Prop} {D : va_G} {cy : Nat → ClassId} {ad : Nat → Nat} {L : List Nat} {rec : Nat → gMem → Int32 → Option (Int32 × gMem)} {frr lor : Nat} {adK adV : Nat → Nat} {mem : gMem} {p0 : Int32} {rv : Int32} {memz : gMem} (hk : gOk ad L) (hL : ∀ o ∈ LX0, o ∈ L) (hE : gEok ad L E) (hSs : ∀ s : State, E s → gS (gA ad L) adK adV s) (hrec0 : ∀ (mem : gMem) (p0 : Int32) (rv : Int32) (memz : gMem), rec 0 mem p0 = some (rv, memz) → gMet l yX4_readEither cX4_readEither 4 (some .boolean) frr lor E D cy shX ad L [.ref (ad 30), .int p0] mem memz (some (.int rv))) (hrec1 : ∀ (mem : gMem) (p0 : Int32) (rv : Int32) (memz : gMem), rec 1 mem p0 = some (rv, memz) → gMet l yX4_readBoth cX4_readBoth 4 (some .boolean) frr lor E D cy shX ad L [.ref (ad 30), .int p0] mem memz (some (.int rv))) (hrec2 : ∀ (mem : gMem) (p0 : Int32) (rv : Int32) (memz : gMem), rec 2 mem p0 = some (rv, memz) → gMet l yX4_readFactor cX4_readFactor 2 (some .boolean) frr lor E D cy shX ad L [.ref (ad 30), .int p0] mem memz (some (.int rv))) (hrec3 : ∀ (mem : gMem) (p0 : Int32) (rv : Int32) (memz : gMem), rec 3 mem p0 = some (rv, memz) → gMet l yX4_readNot cX4_readNot 3 (some .boolean) frr lor E D cy shX ad L [.ref (ad 30), .int p0] mem memz (some (.int rv))) (hrec4 : ∀ (mem : gMem) (p0 : Int32) (rv : Int32) (memz : gMem), rec 4 mem p0 = some (rv, memz) → gMet l yX4_readGroup cX4_readGroup 2 (some .boolean) frr lor E D cy shX ad L [.ref (ad 30), .int p0] mem memz (some (.int rv))) (h : b_X4_readFactor L rec mem p0 = some (rv, memz)) : gMet l yX4_readFactor cX4_readFactor 2 (some .boolean) (frr + 8) (lor + 160) E D cy shX ad L [.ref (ad 30), .int p0] mem memz (some (.int rv)) := by
  refine g_go (own := RX4) (by decide +kernel) rfl hE (Nat.le_of_ble_eq_true rfl) ?_
  intro p e s m args below meth c R Q hargs hR hQ hEs hC hr hX H locs ls hH hl
  have hF := gF_of hk
  have hl : lv_has ls 2 [(0, .ref (ad 30)), (1, .int p0)] := hl
  refine lv_aload_n hC.x hC.b dX4_readFactor_0 rfl (lv_at hl 0 rfl) ?_
  obtain ⟨x1, hf1, h⟩ := bd_e h
  refine c_V1 (As := []) (rest := []) (o := 30) (q := (RX4, TX4, 4)) hC hX hE.2.1 hF hH (c_X4_sign (l := l) hk hL hE hf1) kw469 kw470 kw471 kw24 kw472 a_X4_sign.1 a_X4_sign.2 (hL _ mX30) sX30 rfl rfl hl.1 (rmk hR (by omega) (by omega)) (Nat.le_of_ble_eq_true rfl) dX4_readFactor_1 (fun H locs hH => ?_)
  by_cases hx0 : x1 = 33
  · have h := ifp hx0 h
    refine lv_lookup (off := 28) (tgt := 32) hC.x hC.b dX4_readFactor_4 (by decide) (by rw [hx0]; rfl) (by decide) ?_
    refine lv_iload_n hC.x hC.b dX4_readFactor_32 rfl (lv_at hl 1 rfl) ?_
    refine lv_iconst (v := 4) hC.x hC.b dX4_readFactor_33 rfl ?_
    refine b_ic_ge (tgt := 51) hC dX4_readFactor_34 (by decide) h (fun h => ?_) (fun h => ?_)
    · refine lv_iconst (v := 0) hC.x hC.b dX4_readFactor_51 rfl ?_
      rw [hQ]
      exact e_n hC hr rfl hH h dX4_readFactor_52
    · refine lv_aload_n hC.x hC.b dX4_readFactor_37 rfl (lv_at hl 0 rfl) ?_
      refine lv_iload_n hC.x hC.b dX4_readFactor_38 rfl (lv_at hl 1 rfl) ?_
      refine lv_iconst (v := 1) hC.x hC.b dX4_readFactor_39 rfl ?_
      refine lv_iadd hC.x hC.b dX4_readFactor_40 ?_
      obtain ⟨x3, m2, hf3, h⟩ := bd2_e h
      refine c_V1 (As := [.int (p0 + (1 : Int32))]) (rest := []) (o := 30) (q := (RX4, TX4, 4)) hC hX hE.2.1 hF hH (hrec3 _ _ _ _ hf3) kw551 kw552 kw553 kw24 kw624 a_X4_readNot.1 a_X4_readNot.2 (hL _ mX30) sX30 rfl rfl hl.1 (rmk hR (by omega) (by omega)) (Nat.le_of_ble_eq_true rfl) dX4_readFactor_41 (fun H locs hH => ?_)
      refine b_if_eq (tgt := 51) hC dX4_readFactor_44 (by decide) h (fun h => ?_) (fun h => ?_)
      · refine lv_iconst (v := 0) hC.x hC.b dX4_readFactor_51 rfl ?_
        rw [hQ]
        exact e_n hC hr rfl hH h dX4_readFactor_52
      · refine lv_iconst (v := 1) hC.x hC.b dX4_readFactor_47 rfl ?_
        refine lv_goto (tgt := 52) hC.x hC.b dX4_readFactor_48 (by decide) ?_
        rw [hQ]
        exact e_n hC hr rfl hH h dX4_readFactor_52
  have h := ifn hx0 h
  by_cases hx1 : x1 = 40
  · have h := ifp hx1 h
    refine lv_lookup (off := 49) (tgt := 53) hC.x hC.b dX4_readFactor_4 (by decide) (by rw [hx1]; rfl) (by decide) ?_
    refine lv_iload_n hC.x hC.b dX4_readFactor_53 rfl (lv_at hl 1 rfl) ?_
    refine lv_iconst (v := 4) hC.x hC.b dX4_readFactor_54 rfl ?_
    refine b_ic_ge (tgt := 72) hC dX4_readFactor_55 (by decide) h (fun h => ?_) (fun h => ?_)
    · refine lv_iconst (v := 0) hC.x hC.b dX4_readFactor_72 rfl ?_
      rw [hQ]
      exact e_n hC hr rfl hH h dX4_readFactor_73
    · refine lv_aload_n hC.x hC.b dX4_readFactor_58 rfl (lv_at hl 0 rfl) ?_
      refine lv_iload_n hC.x hC.b dX4_readFactor_59 rfl (lv_at hl 1 rfl) ?_
      refine lv_iconst (v := 1) hC.x hC.b dX4_readFactor_60 rfl ?_
      refine lv_iadd hC.x hC.b dX4_readFactor_61 ?_
      obtain ⟨x5, m4, hf5, h⟩ := bd2_e h
      refine c_V1 (As := [.int (p0 + (1 : Int32))]) (rest := []) (o := 30) (q := (RX4, TX4, 4)) hC hX hE.2.1 hF hH (hrec4 _ _ _ _ hf5) kw554 kw555 kw556 kw24 kw623 a_X4_readGroup.1 a_X4_readGroup.2 (hL _ mX30) sX30 rfl rfl hl.1 (rmk hR (by omega) (by omega)) (Nat.le_of_ble_eq_true rfl) dX4_readFactor_62 (fun H locs hH => ?_)
      refine b_if_eq (tgt := 72) hC dX4_readFactor_65 (by decide) h (fun h => ?_) (fun h => ?_)
      · refine lv_iconst (v := 0) hC.x hC.b dX4_readFactor_72 rfl ?_
        rw [hQ]
        exact e_n hC hr rfl hH h dX4_readFactor_73
      · refine lv_iconst (v := 1) hC.x hC.b dX4_readFactor_68 rfl ?_
        refine lv_goto (tgt := 73) hC.x hC.b dX4_readFactor_69 (by decide) ?_
        rw [hQ]
        exact e_n hC hr rfl hH h dX4_readFactor_73
  have h := ifn hx1 h
  refine lv_lookup (off := 70) (tgt := 74) hC.x hC.b dX4_readFactor_4 (by decide) (by have a0 := ne_ti (v := 33) (z := 33) rfl hx0; have a1 := ne_ti (v := 40) (z := 40) rfl hx1; simp [Op.lookupswitch.offset, Ne.symm a0, a0, Ne.symm a1, a1]) (by decide) ?_
  refine lv_aload_n hC.x hC.b dX4_readFactor_74 rfl (lv_at hl 0 rfl) ?_
  obtain ⟨x7, m6, hf7, h⟩ := bd2_e h
  refine c_V1 (As := []) (rest := []) (o := 30) (q := (RX4, TX4, 4)) hC hX hE.2.1 hF hH (c_X4_readTest (l := l) hk hL hE hSs hf7) kw557 kw558 kw559 kw24 kw560 a_X4_readTest.1 a_X4_readTest.2 (hL _ mX30) sX30 rfl rfl hl.1 (rmk hR (by omega) (by omega)) (Nat.le_of_ble_eq_true rfl) dX4_readFactor_75 (fun H locs hH => ?_)
  rw [hQ]
  exact e_z hC hr hH h dX4_readFactor_78
def b_X4_readNot (L : List Nat) (rec : Nat → gMem → Int32 → Option (Int32 × gMem)) (mem : gMem) (p0 : Int32) : Option (Int32 × gMem) := lt1 (gsI mem 30 2 ((gI mem 30 2) + (1 : Int32))) fun (m1 : gMem) => bd2 (rec 2 m1 p0) fun (x3 : Int32) (m2 : gMem) => oc (gR m2 30 3) none fun g4 => if isN g4 then bd (f_X3_addCode L m2 g4 (-1 : Int32)) fun (m5 : gMem) => if isB x3 then some (x3, m5) else none else none
set_option maxRecDepth 100000 in
set_option maxHeartbeats 4000000 in
theorem cb_X4_readNot {l : Launch} {E : State → Prop} {D : va_G} {cy : Nat → ClassId} {ad : Nat → Nat} {L : List Nat} {rec : Nat → gMem → Int32 → Option (Int32 × gMem)} {frr lor : Nat} {adK adV : Nat → Nat} {mem : gMem} {p0 : Int32} {rv : Int32} {memz : gMem} (hk : gOk ad L) (hL : ∀ o ∈ LX0, o ∈ L) (hE : gEok ad L E) (hSs : ∀ s : State, E s → gS (gA ad L) adK adV s) (hrec0 : ∀ (mem : gMem) (p0 : Int32) (rv : Int32) (memz : gMem), rec 0 mem p0 = some (rv, memz) → gMet l yX4_readEither cX4_readEither 4 (some .boolean) frr lor E D cy shX ad L [.ref (ad 30), .int p0] mem memz (some (.int rv))) (hrec1 : ∀ (mem : gMem) (p0 : Int32) (rv : Int32) (memz : gMem), rec 1 mem p0 = some (rv, memz) → gMet l yX4_readBoth cX4_readBoth 4 (some .boolean) frr lor E D cy shX ad L [.ref (ad 30), .int p0] mem memz (some (.int rv))) (hrec2 : ∀ (mem : gMem) (p0 : Int32) (rv : Int32) (memz : gMem), rec 2 mem p0 = some (rv, memz) → gMet l yX4_readFactor cX4_readFactor 2 (some .boolean) frr lor E D cy shX ad L [.ref (ad 30), .int p0] mem memz (some (.int rv))) (hrec3 : ∀ (mem : gMem) (p0 : Int32) (rv : Int32) (memz : gMem), rec 3 mem p0 = some (rv, memz) → gMet l yX4_readNot cX4_readNot 3 (some .boolean) frr lor E D cy shX ad L [.ref (ad 30), .int p0] mem memz (some (.int rv))) (hrec4 : ∀ (mem : gMem) (p0 : Int32) (rv : Int32) (memz : gMem), rec 4 mem p0 = some (rv, memz) → gMet l yX4_readGroup cX4_readGroup 2 (some .boolean) frr lor E D cy shX ad L [.ref (ad 30), .int p0] mem memz (some (.int rv))) (h : b_X4_readNot L rec mem p0 = some (rv, memz)) : gMet l yX4_readNot cX4_readNot 3 (some .boolean) (frr + 8) (lor + 160) E D cy shX ad L [.ref (ad 30), .int p0] mem memz (some (.int rv)) := by
  refine g_go (own := RX4) (by decide +kernel) rfl hE (Nat.le_of_ble_eq_true rfl) ?_
  intro p e s m args below meth c R Q hargs hR hQ hEs hC hr hX H locs ls hH hl
  have hF := gF_of hk
  have hl : lv_has ls 3 [(0, .ref (ad 30)), (1, .int p0)] := hl
  refine lv_aload_n hC.x hC.b dX4_readNot_0 rfl (lv_at hl 0 rfl) ?_
  refine lv_dup hC.x hC.b dX4_readNot_1 rfl ?_
  refine r_geti hC hH fl_X4_19_4 (hL _ mX30) sX30 rfl dX4_readNot_2 ?_
  refine lv_iconst (v := 1) hC.x hC.b dX4_readNot_5 rfl ?_
  refine lv_iadd hC.x hC.b dX4_readNot_6 ?_
  refine r_puti hC hF hH pl_X4_19_4 (hL _ mX30) sX30 rfl h dX4_readNot_7 (fun m1 H locs h hH => ?_)
  refine lv_aload_n hC.x hC.b dX4_readNot_10 rfl (lv_at hl 0 rfl) ?_
  refine lv_iload_n hC.x hC.b dX4_readNot_11 rfl (lv_at hl 1 rfl) ?_
  obtain ⟨x3, m2, hf3, h⟩ := bd2_e h
  refine c_V1 (As := [.int p0]) (rest := []) (o := 30) (q := (RX4, TX4, 4)) hC hX hE.2.1 hF hH (hrec2 _ _ _ _ hf3) kw547 kw548 kw549 kw24 kw550 a_X4_readFactor.1 a_X4_readFactor.2 (hL _ mX30) sX30 rfl rfl hl.1 (rmk hR (by omega) (by omega)) (Nat.le_of_ble_eq_true rfl) dX4_readNot_12 (fun H locs hH => ?_)
  refine lv_istore_n (lv' := [(2, .int x3), (0, .ref (ad 30)), (1, .int p0)]) hC.x hC.b dX4_readNot_15 rfl hl (by decide) rfl (fun ls hl => ?_)
  refine lv_aload_n hC.x hC.b dX4_readNot_16 rfl (lv_at hl 1 rfl) ?_
  refine r_getr hC hH fl_X4_22_4 (hL _ mX30) sX30 rfl dX4_readNot_17 ?_
  refine d_top h (fun g4 hyg4 h => ?_)
  obtain ⟨hNg4, h⟩ := chk h
  refine lv_iconst (v := -1) hC.x hC.b dX4_readNot_20 rfl ?_
  obtain ⟨m5, hf5, h⟩ := bd_e h
  refine c_V0 (As := [.int (-1 : Int32)]) (rest := []) (o := g4) (q := (RX3, TX3, 6)) hC hX hE.2.1 hF hH (c_X3_addCode (l := l) hk hL hE hNg4 hf5) kw542 kw543 kw544 kw38 kw545 a_X3_addCode.1 a_X3_addCode.2 (hL _ (mN hNg4 (k := 0) (by decide))) (sN0 hNg4) rfl rfl hl.1 (rmk hR (by omega) (by omega)) (Nat.le_of_ble_eq_true rfl) dX4_readNot_21 (fun H locs hH => ?_)
  refine lv_iload_n hC.x hC.b dX4_readNot_24 rfl (lv_at hl 0 rfl) ?_
  rw [hQ]
  exact e_z hC hr hH h dX4_readNot_25
def b_X4_readGroup (L : List Nat) (rec : Nat → gMem → Int32 → Option (Int32 × gMem)) (mem : gMem) (p0 : Int32) : Option (Int32 × gMem) := lt1 (gsI mem 30 2 ((gI mem 30 2) + (1 : Int32))) fun (m1 : gMem) => bd2 (rec 0 m1 p0) fun (x3 : Int32) (m2 : gMem) => if x3 = 0 then (some ((0 : Int32), m2)) else bd2 (f_X4_skip L m2 (41 : Int32)) fun (x5 : Int32) (m4 : gMem) => if x5 = 0 then (some ((0 : Int32), m4)) else some ((1 : Int32), m4)
set_option maxRecDepth 100000 in
set_option maxHeartbeats 4000000 in
theorem cb_X4_readGroup {l : Launch} {E : State → Prop} {D : va_G} {cy : Nat → ClassId} {ad : Nat → Nat} {L : List Nat} {rec : Nat → gMem → Int32 → Option (Int32 × gMem)} {frr lor : Nat} {adK adV : Nat → Nat} {mem : gMem} {p0 : Int32} {rv : Int32} {memz : gMem} (hk : gOk ad L) (hL : ∀ o ∈ LX0, o ∈ L) (hE : gEok ad L E) (hSs : ∀ s : State, E s → gS (gA ad L) adK adV s) (hrec0 : ∀ (mem : gMem) (p0 : Int32) (rv : Int32) (memz : gMem), rec 0 mem p0 = some (rv, memz) → gMet l yX4_readEither cX4_readEither 4 (some .boolean) frr lor E D cy shX ad L [.ref (ad 30), .int p0] mem memz (some (.int rv))) (hrec1 : ∀ (mem : gMem) (p0 : Int32) (rv : Int32) (memz : gMem), rec 1 mem p0 = some (rv, memz) → gMet l yX4_readBoth cX4_readBoth 4 (some .boolean) frr lor E D cy shX ad L [.ref (ad 30), .int p0] mem memz (some (.int rv))) (hrec2 : ∀ (mem : gMem) (p0 : Int32) (rv : Int32) (memz : gMem), rec 2 mem p0 = some (rv, memz) → gMet l yX4_readFactor cX4_readFactor 2 (some .boolean) frr lor E D cy shX ad L [.ref (ad 30), .int p0] mem memz (some (.int rv))) (hrec3 : ∀ (mem : gMem) (p0 : Int32) (rv : Int32) (memz : gMem), rec 3 mem p0 = some (rv, memz) → gMet l yX4_readNot cX4_readNot 3 (some .boolean) frr lor E D cy shX ad L [.ref (ad 30), .int p0] mem memz (some (.int rv))) (hrec4 : ∀ (mem : gMem) (p0 : Int32) (rv : Int32) (memz : gMem), rec 4 mem p0 = some (rv, memz) → gMet l yX4_readGroup cX4_readGroup 2 (some .boolean) frr lor E D cy shX ad L [.ref (ad 30), .int p0] mem memz (some (.int rv))) (h : b_X4_readGroup L rec mem p0 = some (rv, memz)) : gMet l yX4_readGroup cX4_readGroup 2 (some .boolean) (frr + 8) (lor + 160) E D cy shX ad L [.ref (ad 30), .int p0] mem memz (some (.int rv)) := by
  refine g_go (own := RX4) (by decide +kernel) rfl hE (Nat.le_of_ble_eq_true rfl) ?_
  intro p e s m args below meth c R Q hargs hR hQ hEs hC hr hX H locs ls hH hl
  have hF := gF_of hk
  have hl : lv_has ls 2 [(0, .ref (ad 30)), (1, .int p0)] := hl
  refine lv_aload_n hC.x hC.b dX4_readGroup_0 rfl (lv_at hl 0 rfl) ?_
  refine lv_dup hC.x hC.b dX4_readGroup_1 rfl ?_
  refine r_geti hC hH fl_X4_19_4 (hL _ mX30) sX30 rfl dX4_readGroup_2 ?_
  refine lv_iconst (v := 1) hC.x hC.b dX4_readGroup_5 rfl ?_
  refine lv_iadd hC.x hC.b dX4_readGroup_6 ?_
  refine r_puti hC hF hH pl_X4_19_4 (hL _ mX30) sX30 rfl h dX4_readGroup_7 (fun m1 H locs h hH => ?_)
  refine lv_aload_n hC.x hC.b dX4_readGroup_10 rfl (lv_at hl 0 rfl) ?_
  refine lv_iload_n hC.x hC.b dX4_readGroup_11 rfl (lv_at hl 1 rfl) ?_
  obtain ⟨x3, m2, hf3, h⟩ := bd2_e h
  refine c_V1 (As := [.int p0]) (rest := []) (o := 30) (q := (RX4, TX4, 4)) hC hX hE.2.1 hF hH (hrec0 _ _ _ _ hf3) kw535 kw536 kw537 kw24 kw538 a_X4_readEither.1 a_X4_readEither.2 (hL _ mX30) sX30 rfl rfl hl.1 (rmk hR (by omega) (by omega)) (Nat.le_of_ble_eq_true rfl) dX4_readGroup_12 (fun H locs hH => ?_)
  refine b_if_eq (tgt := 31) hC dX4_readGroup_15 (by decide) h (fun h => ?_) (fun h => ?_)
  · refine lv_iconst (v := 0) hC.x hC.b dX4_readGroup_31 rfl ?_
    rw [hQ]
    exact e_n hC hr rfl hH h dX4_readGroup_32
  · refine lv_aload_n hC.x hC.b dX4_readGroup_18 rfl (lv_at hl 0 rfl) ?_
    refine lv_bipush (v := 41) hC.x hC.b dX4_readGroup_19 rfl ?_
    obtain ⟨x5, m4, hf5, h⟩ := bd2_e h
    refine c_V1 (As := [.int (41 : Int32)]) (rest := []) (o := 30) (q := (RX4, TX4, 4)) hC hX hE.2.1 hF hH (c_X4_skip (l := l) hk hL hE hf5) kw526 kw527 kw528 kw24 kw529 a_X4_skip.1 a_X4_skip.2 (hL _ mX30) sX30 rfl rfl hl.1 (rmk hR (by omega) (by omega)) (Nat.le_of_ble_eq_true rfl) dX4_readGroup_21 (fun H locs hH => ?_)
    refine b_if_eq (tgt := 31) hC dX4_readGroup_24 (by decide) h (fun h => ?_) (fun h => ?_)
    · refine lv_iconst (v := 0) hC.x hC.b dX4_readGroup_31 rfl ?_
      rw [hQ]
      exact e_n hC hr rfl hH h dX4_readGroup_32
    · refine lv_iconst (v := 1) hC.x hC.b dX4_readGroup_27 rfl ?_
      refine lv_goto (tgt := 32) hC.x hC.b dX4_readGroup_28 (by decide) ?_
      rw [hQ]
      exact e_n hC hr rfl hH h dX4_readGroup_32
def f_R (L : List Nat) : Nat → Nat → gMem → Int32 → Option (Int32 × gMem)
  | 0, _, _, _ => none
  | n + 1, k, mem, p0 => if k = 0 then b_X4_readEither L (f_R L n) mem p0 else if k = 1 then b_X4_readBoth L (f_R L n) mem p0 else if k = 2 then b_X4_readFactor L (f_R L n) mem p0 else if k = 3 then b_X4_readNot L (f_R L n) mem p0 else b_X4_readGroup L (f_R L n) mem p0
theorem c_R {l : Launch} {E : State → Prop} {D : va_G} {cy : Nat → ClassId} {ad : Nat → Nat} {L : List Nat} {adK adV : Nat → Nat} (hk : gOk ad L) (hL : ∀ o ∈ LX0, o ∈ L) (hE : gEok ad L E) (hSs : ∀ s : State, E s → gS (gA ad L) adK adV s) : ∀ (n k : Nat) (mem : gMem) (p0 : Int32) (rv : Int32) (memz : gMem), f_R L n k mem p0 = some (rv, memz) → (k = 0 → gMet l yX4_readEither cX4_readEither 4 (some .boolean) (8 * n) (160 * n) E D cy shX ad L [.ref (ad 30), .int p0] mem memz (some (.int rv))) ∧ (k = 1 → gMet l yX4_readBoth cX4_readBoth 4 (some .boolean) (8 * n) (160 * n) E D cy shX ad L [.ref (ad 30), .int p0] mem memz (some (.int rv))) ∧ (k = 2 → gMet l yX4_readFactor cX4_readFactor 2 (some .boolean) (8 * n) (160 * n) E D cy shX ad L [.ref (ad 30), .int p0] mem memz (some (.int rv))) ∧ (k = 3 → gMet l yX4_readNot cX4_readNot 3 (some .boolean) (8 * n) (160 * n) E D cy shX ad L [.ref (ad 30), .int p0] mem memz (some (.int rv))) ∧ (k = 4 → gMet l yX4_readGroup cX4_readGroup 2 (some .boolean) (8 * n) (160 * n) E D cy shX ad L [.ref (ad 30), .int p0] mem memz (some (.int rv))) := by
  intro n
  induction n with
  | zero => intro k mem p0 rv memz h; cases h
  | succ n ih =>
    intro k mem p0 rv memz h
    have h0 := fun mem p0 rv memz h => (ih 0 mem p0 rv memz h).1 rfl
    have h1 := fun mem p0 rv memz h => (ih 1 mem p0 rv memz h).2.1 rfl
    have h2 := fun mem p0 rv memz h => (ih 2 mem p0 rv memz h).2.2.1 rfl
    have h3 := fun mem p0 rv memz h => (ih 3 mem p0 rv memz h).2.2.2.1 rfl
    have h4 := fun mem p0 rv memz h => (ih 4 mem p0 rv memz h).2.2.2.2 rfl
    refine ⟨fun e => ?_, fun e => ?_, fun e => ?_, fun e => ?_, fun e => ?_⟩
    · subst e; exact cb_X4_readEither (l := l) hk hL hE hSs h0 h1 h2 h3 h4 h
    · subst e; exact cb_X4_readBoth (l := l) hk hL hE hSs h0 h1 h2 h3 h4 h
    · subst e; exact cb_X4_readFactor (l := l) hk hL hE hSs h0 h1 h2 h3 h4 h
    · subst e; exact cb_X4_readNot (l := l) hk hL hE hSs h0 h1 h2 h3 h4 h
    · subst e; exact cb_X4_readGroup (l := l) hk hL hE hSs h0 h1 h2 h3 h4 h
def f_X4_readEither (L : List Nat) (mem : gMem) (p0 : Int32) : Option (Int32 × gMem) := f_R L 24 0 mem p0
theorem c_X4_readEither {l : Launch} {E : State → Prop} {D : va_G} {cy : Nat → ClassId} {ad : Nat → Nat} {L : List Nat} {adK adV : Nat → Nat} {mem : gMem} {p0 : Int32} {rv : Int32} {memz : gMem} (hk : gOk ad L) (hL : ∀ o ∈ LX0, o ∈ L) (hE : gEok ad L E) (hSs : ∀ s : State, E s → gS (gA ad L) adK adV s) (h : f_X4_readEither L mem p0 = some (rv, memz)) : gMet l yX4_readEither cX4_readEither 4 (some .boolean) 192 3840 E D cy shX ad L [.ref (ad 30), .int p0] mem memz (some (.int rv)) := (c_R (l := l) hk hL hE hSs 24 0 mem p0 rv memz h).1 rfl
def d_actGoes (L : List Nat) (mem : gMem) (w : Nat) (x0 : Int32) : Option (Int32 × gMem) := if wkd w = 0 then f_X9_actGoes L mem w x0 else if wkd w = 1 then f_X1_actGoes L mem w x0 else if wkd w = 2 then f_X9_actGoes L mem w x0 else if wkd w = 3 then f_X9_actGoes L mem w x0 else if wkd w = 4 then f_X7_actGoes L mem w x0 else if wkd w = 5 then f_X9_actGoes L mem w x0 else f_X8_actGoes L mem w x0
theorem a_X7_actGoes : noMH yX7_actGoes.cls ∧ arity yX7_actGoes.desc 1 := by decide +kernel
theorem a_X8_actGoes : noMH yX8_actGoes.cls ∧ arity yX8_actGoes.desc 1 := by decide +kernel
theorem v_X9_39_actGoes {p : Program} {l : Launch} {e : Env} {R : Room} {s : State} {m : MethodId} {args : Array Value} {below : List Frame} {meth : Method} {c : Code} {H : Heap} {locs : List Loc} {Q : State → Prop} {cc : ByteArray} {nL : Nat} {pc : Nat} {ls : Array Slot} {rest : List Value} {D : va_G} {cy : Nat → ClassId} {ad : Nat → Nat} {L : List Nat} {mem mem' : gMem} {E : State → Prop} {fr0 lo0 w : Nat} {x0 : Int32} {rv : Int32} (hC : gC p s m args meth c cc nL RX9 D cy) (hX : gX (gA ad L) s E) (hk : gOk ad L) (hL : ∀ o ∈ LX0, o ∈ L) (hE : gEok ad L E) (hF : gF ad L (gA ad L)) (hH : gH D cy shX ad L (gA ad L) s.heap mem H locs) (hw : wok L w) (hf : d_actGoes L mem w x0 = some (rv, mem')) (hls : ls.size = nL) (hR : R = gRm fr0 lo0) (h1 : 6 ≤ fr0) (h2 : 126 ≤ lo0) (hW : (rest.map fun v => v.category).sum ≤ 8) (hdg : decode cc pc = .ok (.invokevirtual 39, 3))
    (kk : ∀ (H1 : Heap) (locs1 : List Loc), gH D cy shX ad L (gA ad L) s.heap mem' H1 locs1 → W p l e R s m args below meth c H1 locs1 0 0 Q (F0 m (pc + 3) ls (.int rv :: rest))) : W p l e R s m args below meth c H locs 0 0 Q (F0 m pc ls (.int x0 :: .ref (ad w) :: rest)) := by
  have hk7 := hw.2.2.1
  unfold d_actGoes at hf
  by_cases hc : wkd w = 0
  · have hf := ifp hc hf
    exact c_U1 (As := [.int x0]) (rest := rest) (o := w) (x := ⟨"OnTiptoe$Walker", "actGoes", "(I)I"⟩) (owner := "OnTiptoe$Walker") (b0 := cX9_actGoes) (m0 := 2) (r0 := (some .int)) (q := (RX9, TX9, 6)) hC hX hE.2.1 hF hH (c_X9_actGoes (l := l) (mem := mem) hk hL hE hw hf) kw1214 kw1172 kw1199 kw221 kw1175 kw1174 kw1174 kw1175 (by decide +kernel) a_X9_actGoes.2 hw.2.2.2.1 (sWk hw hc) rfl rfl hls (rmk hR (by omega) (by omega)) hW hdg kk
  have hf := ifn hc hf
  have hz0 := hc
  clear hc
  by_cases hc : wkd w = 1
  · have hf := ifp hc hf
    exact c_U1 (As := [.int x0]) (rest := rest) (o := w) (x := ⟨"OnTiptoe$Walker", "actGoes", "(I)I"⟩) (owner := "OnTiptoe$Walker") (b0 := cX9_actGoes) (m0 := 2) (r0 := (some .int)) (q := (RX1, TX1, 6)) hC hX hE.2.1 hF hH (c_X1_actGoes (l := l) (mem := mem) hk hL hE hw (by omega) hf) kw1214 kw1172 kw1179 kw204 kw1181 kw1180 kw1174 kw1175 (by decide +kernel) a_X1_actGoes.2 hw.2.2.2.1 (sWk hw hc) rfl rfl hls (rmk hR (by omega) (by omega)) hW hdg kk
  have hf := ifn hc hf
  have hz1 := hc
  clear hc
  by_cases hc : wkd w = 2
  · have hf := ifp hc hf
    exact c_U1 (As := [.int x0]) (rest := rest) (o := w) (x := ⟨"OnTiptoe$Walker", "actGoes", "(I)I"⟩) (owner := "OnTiptoe$Walker") (b0 := cX9_actGoes) (m0 := 2) (r0 := (some .int)) (q := (RX6, TX6, 6)) hC hX hE.2.1 hF hH (c_X9_actGoes (l := l) (mem := mem) hk hL hE hw hf) kw1214 kw1172 kw1189 kw221 kw1175 kw1174 kw1174 kw1175 (by decide +kernel) a_X9_actGoes.2 hw.2.2.2.1 (sWk hw hc) rfl rfl hls (rmk hR (by omega) (by omega)) hW hdg kk
  have hf := ifn hc hf
  have hz2 := hc
  clear hc
  by_cases hc : wkd w = 3
  · have hf := ifp hc hf
    exact c_U1 (As := [.int x0]) (rest := rest) (o := w) (x := ⟨"OnTiptoe$Walker", "actGoes", "(I)I"⟩) (owner := "OnTiptoe$Walker") (b0 := cX9_actGoes) (m0 := 2) (r0 := (some .int)) (q := (RX5, TX5, 6)) hC hX hE.2.1 hF hH (c_X9_actGoes (l := l) (mem := mem) hk hL hE hw hf) kw1214 kw1172 kw1188 kw221 kw1175 kw1174 kw1174 kw1175 (by decide +kernel) a_X9_actGoes.2 hw.2.2.2.1 (sWk hw hc) rfl rfl hls (rmk hR (by omega) (by omega)) hW hdg kk
  have hf := ifn hc hf
  have hz3 := hc
  clear hc
  by_cases hc : wkd w = 4
  · have hf := ifp hc hf
    exact c_U1 (As := [.int x0]) (rest := rest) (o := w) (x := ⟨"OnTiptoe$Walker", "actGoes", "(I)I"⟩) (owner := "OnTiptoe$Walker") (b0 := cX9_actGoes) (m0 := 2) (r0 := (some .int)) (q := (RX7, TX7, 6)) hC hX hE.2.1 hF hH (c_X7_actGoes (l := l) (mem := mem) hk hL hE hw (by omega) hf) kw1214 kw1172 kw1190 kw213 kw1192 kw1191 kw1174 kw1175 (by decide +kernel) a_X7_actGoes.2 hw.2.2.2.1 (sWk hw hc) rfl rfl hls (rmk hR (by omega) (by omega)) hW hdg kk
  have hf := ifn hc hf
  have hz4 := hc
  clear hc
  by_cases hc : wkd w = 5
  · have hf := ifp hc hf
    exact c_U1 (As := [.int x0]) (rest := rest) (o := w) (x := ⟨"OnTiptoe$Walker", "actGoes", "(I)I"⟩) (owner := "OnTiptoe$Walker") (b0 := cX9_actGoes) (m0 := 2) (r0 := (some .int)) (q := (RX0, TX0, 6)) hC hX hE.2.1 hF hH (c_X9_actGoes (l := l) (mem := mem) hk hL hE hw hf) kw1214 kw1172 kw1173 kw221 kw1175 kw1174 kw1174 kw1175 (by decide +kernel) a_X9_actGoes.2 hw.2.2.2.1 (sWk hw hc) rfl rfl hls (rmk hR (by omega) (by omega)) hW hdg kk
  have hf := ifn hc hf
  have hz5 := hc
  clear hc
  have hc : wkd w = 6 := by omega
  exact c_U1 (As := [.int x0]) (rest := rest) (o := w) (x := ⟨"OnTiptoe$Walker", "actGoes", "(I)I"⟩) (owner := "OnTiptoe$Walker") (b0 := cX9_actGoes) (m0 := 2) (r0 := (some .int)) (q := (RX8, TX8, 8)) hC hX hE.2.1 hF hH (c_X8_actGoes (l := l) (mem := mem) hk hL hE hw (by omega) hf) kw1214 kw1172 kw1195 kw219 kw1197 kw1196 kw1174 kw1175 (by decide +kernel) a_X8_actGoes.2 hw.2.2.2.1 (sWk hw hc) rfl rfl hls (rmk hR (by omega) (by omega)) hW hdg kk
def f_X9_actTells (L : List Nat) (mem : gMem) (w0 : Nat) (p0 : Int32) : Option (Int32 × gMem) := bd (f_X9_begin L mem w0 (12 : Int32)) fun (m1 : gMem) => bd2 (d_actGoes L m1 w0 p0) fun (x3 : Int32) (m2 : gMem) => some ((x3 * (2 : Int32)), m2)
set_option maxRecDepth 100000 in
set_option maxHeartbeats 4000000 in
theorem c_X9_actTells {l : Launch} {E : State → Prop} {D : va_G} {cy : Nat → ClassId} {ad : Nat → Nat} {L : List Nat} {mem : gMem} {w0 : Nat} {p0 : Int32} {rv : Int32} {memz : gMem} (hk : gOk ad L) (hL : ∀ o ∈ LX0, o ∈ L) (hE : gEok ad L E) (hw0 : wok L w0) (h : f_X9_actTells L mem w0 p0 = some (rv, memz)) : gMet l yX9_actTells cX9_actTells 2 (some .int) 6 126 E D cy shX ad L [.ref (ad w0), .int p0] mem memz (some (.int rv)) := by
  refine g_go (own := RX9) (by decide +kernel) rfl hE (Nat.le_of_ble_eq_true rfl) ?_
  intro p e s m args below meth c R Q hargs hR hQ hEs hC hr hX H locs ls hH hl
  have hF := gF_of hk
  have hl : lv_has ls 2 [(0, .ref (ad w0)), (1, .int p0)] := hl
  refine lv_aload_n hC.x hC.b dX9_actTells_0 rfl (lv_at hl 0 rfl) ?_
  refine lv_bipush (v := 12) hC.x hC.b dX9_actTells_1 rfl ?_
  obtain ⟨m1, hf1, h⟩ := bd_e h
  refine v_X9_31_begin hC hX hk hL hE hF hH hw0 hf1 hl.1 hR (by decide) (by decide) (Nat.le_of_ble_eq_true rfl) dX9_actTells_3 (fun H locs hH => ?_)
  refine lv_aload_n hC.x hC.b dX9_actTells_6 rfl (lv_at hl 0 rfl) ?_
  refine lv_iload_n hC.x hC.b dX9_actTells_7 rfl (lv_at hl 1 rfl) ?_
  obtain ⟨x3, m2, hf3, h⟩ := bd2_e h
  refine v_X9_39_actGoes hC hX hk hL hE hF hH hw0 hf3 hl.1 hR (by decide) (by decide) (Nat.le_of_ble_eq_true rfl) dX9_actTells_8 (fun H locs hH => ?_)
  refine lv_iconst (v := 2) hC.x hC.b dX9_actTells_11 rfl ?_
  refine lv_imul hC.x hC.b dX9_actTells_12 ?_
  rw [hQ]
  exact e_i hC hr hH h dX9_actTells_13
theorem v_X0_17_begin {p : Program} {l : Launch} {e : Env} {R : Room} {s : State} {m : MethodId} {args : Array Value} {below : List Frame} {meth : Method} {c : Code} {H : Heap} {locs : List Loc} {Q : State → Prop} {cc : ByteArray} {nL : Nat} {pc : Nat} {ls : Array Slot} {rest : List Value} {D : va_G} {cy : Nat → ClassId} {ad : Nat → Nat} {L : List Nat} {mem mem' : gMem} {E : State → Prop} {fr0 lo0 w : Nat} {x0 : Int32}  (hC : gC p s m args meth c cc nL RX0 D cy) (hX : gX (gA ad L) s E) (hk : gOk ad L) (hL : ∀ o ∈ LX0, o ∈ L) (hE : gEok ad L E) (hF : gF ad L (gA ad L)) (hH : gH D cy shX ad L (gA ad L) s.heap mem H locs) (hw : wok L w) (hk0 : wkd w = 5) (hf : f_X9_begin L mem w x0 = some mem') (hls : ls.size = nL) (hR : R = gRm fr0 lo0) (h1 : 1 ≤ fr0) (h2 : 21 ≤ lo0) (hW : (rest.map fun v => v.category).sum ≤ 8) (hdg : decode cc pc = .ok (.invokevirtual 17, 3))
    (kk : ∀ (H1 : Heap) (locs1 : List Loc), gH D cy shX ad L (gA ad L) s.heap mem' H1 locs1 → W p l e R s m args below meth c H1 locs1 0 0 Q (F0 m (pc + 3) ls rest)) : W p l e R s m args below meth c H locs 0 0 Q (F0 m pc ls (.int x0 :: .ref (ad w) :: rest)) := by
  have hc : wkd w = 5 := by omega
  exact c_U0 (As := [.int x0]) (rest := rest) (o := w) (x := ⟨"OnTiptoe$Bare", "begin", "(I)V"⟩) (owner := "OnTiptoe$Walker") (b0 := cX9_begin) (m0 := 2) (r0 := none) (q := (RX0, TX0, 6)) hC hX hE.2.1 hF hH (c_X9_begin (l := l) (mem := mem) hk hL hE hw hf) kw1208 kw1209 kw1210 kw221 kw1135 kw1134 kw1134 kw1135 (by decide +kernel) a_X9_begin.2 hw.2.2.2.1 (sWk hw hc) rfl rfl hls (rmk hR (by omega) (by omega)) hW hdg kk
theorem fk_X0_21 {j : Nat} (h : j = 5) : gFl RX0 21 (kci j) 0 := by
  rcases h with rfl
  · exact ⟨RX0, TX0, 6, "OnTiptoe$Bare", rfl, inW0, by decide, kw1206, Or.inr kw1207⟩
theorem a_X9_actTells : noMH yX9_actTells.cls ∧ arity yX9_actTells.desc 1 := by decide +kernel
theorem u_X0_24 {p : Program} {l : Launch} {e : Env} {R : Room} {s : State} {m : MethodId} {args : Array Value} {below : List Frame} {meth : Method} {c : Code} {H : Heap} {locs : List Loc} {cells slots : Nat} {Q : State → Prop} {cc : ByteArray} {nL : Nat} {pc : Nat} {ls : Array Slot} {rest As : List Value} {D : va_G} {cy : Nat → ClassId} {ad : Nat → Nat} {L : List Nat} {A : Nat → Prop} {mem mem' : gMem} {E : State → Prop} {fr lo w : Nat} {v : Value} (hC : gC p s m args meth c cc nL RX0 D cy) (hX : gX A s E) (hB : eBl E) (hF : gF ad L A) (hH : gH D cy shX ad L A s.heap mem H locs) (hM : gMet l yX9_actTells cX9_actTells 2 (some .int) fr lo E D cy shX ad L (.ref (ad w) :: As) mem mem' (some v)) (hw : wok L w) (hk : wkd w = 5) (hn : As.length = 1) (hls : ls.size = nL) (hR : fr + 1 ≤ R.frames ∧ 8 + (2 + 11) + lo ≤ R.locals ∧ cells ≤ R.cells ∧ slots ≤ R.slots) (hW : (rest.map fun v => v.category).sum ≤ 8) (hdg : decode cc pc = .ok (.invokespecial 24, 3))
    (kk : ∀ (H1 : Heap) (locs1 : List Loc), gH D cy shX ad L A s.heap mem' H1 locs1 → W p l e R s m args below meth c H1 locs1 cells slots Q (F0 m (pc + 3) ls (v :: rest))) : W p l e R s m args below meth c H locs cells slots Q (F0 m pc ls (As.reverse ++ .ref (ad w) :: rest)) := by
  rcases hk with hk
  · exact c_SX (ov := (some v)) (x := ⟨"OnTiptoe$Soft", "actTells", "(I)I"⟩) (owner := "OnTiptoe$Walker") (q := (RX0, TX0, 6)) hC hX hB hF hH hM rfl kw1365 kw1366 kw339 kw1139 kw221 kw1211 kw1202 (by decide +kernel) a_X9_actTells.2 hw.2.2.2.1 (sWk hw hk) rfl hn hls hR hW hdg kk
def f_X0_actTells (L : List Nat) (mem : gMem) (w0 : Nat) (p0 : Int32) : Option (Int32 × gMem) := bd (f_X9_begin L mem w0 (60 : Int32)) fun (m1 : gMem) => bd2 (f_X9_actTells L m1 w0 (p0 - (gI m1 w0 0))) fun (x3 : Int32) (m2 : gMem) => some (x3, m2)
set_option maxRecDepth 100000 in
set_option maxHeartbeats 4000000 in
theorem c_X0_actTells {l : Launch} {E : State → Prop} {D : va_G} {cy : Nat → ClassId} {ad : Nat → Nat} {L : List Nat} {mem : gMem} {w0 : Nat} {p0 : Int32} {rv : Int32} {memz : gMem} (hk : gOk ad L) (hL : ∀ o ∈ LX0, o ∈ L) (hE : gEok ad L E) (hw0 : wok L w0) (hkd : wkd w0 = 5) (h : f_X0_actTells L mem w0 p0 = some (rv, memz)) : gMet l yX0_actTells cX0_actTells 2 (some .int) 7 147 E D cy shX ad L [.ref (ad w0), .int p0] mem memz (some (.int rv)) := by
  refine g_go (own := RX0) (by decide +kernel) rfl hE (Nat.le_of_ble_eq_true rfl) ?_
  intro p e s m args below meth c R Q hargs hR hQ hEs hC hr hX H locs ls hH hl
  have hF := gF_of hk
  have hl : lv_has ls 2 [(0, .ref (ad w0)), (1, .int p0)] := hl
  refine lv_aload_n hC.x hC.b dX0_actTells_0 rfl (lv_at hl 0 rfl) ?_
  refine lv_bipush (v := 60) hC.x hC.b dX0_actTells_1 rfl ?_
  obtain ⟨m1, hf1, h⟩ := bd_e h
  refine v_X0_17_begin hC hX hk hL hE hF hH hw0 hkd hf1 hl.1 hR (by decide) (by decide) (Nat.le_of_ble_eq_true rfl) dX0_actTells_3 (fun H locs hH => ?_)
  refine lv_aload_n hC.x hC.b dX0_actTells_6 rfl (lv_at hl 0 rfl) ?_
  refine lv_iload_n hC.x hC.b dX0_actTells_7 rfl (lv_at hl 1 rfl) ?_
  refine lv_aload_n hC.x hC.b dX0_actTells_8 rfl (lv_at hl 0 rfl) ?_
  refine r_geti hC hH (fk_X0_21 hkd) hw0.2.2.2.1 (sW0 hw0) rfl dX0_actTells_9 ?_
  refine lv_isub hC.x hC.b dX0_actTells_12 ?_
  obtain ⟨x3, m2, hf3, h⟩ := bd2_e h
  refine u_X0_24 (As := [.int (p0 - (gI m1 w0 0))]) (rest := []) hC hX hE.2.1 hF hH (c_X9_actTells (l := l) hk hL hE hw0 hf3) hw0 hkd rfl hl.1 (rmk hR (by decide) (by decide)) (Nat.le_of_ble_eq_true rfl) dX0_actTells_13 (fun H locs hH => ?_)
  rw [hQ]
  exact e_i hC hr hH h dX0_actTells_16
theorem pl_X4_22_4 : gPl RX4 22 4 3 "LOnTiptoe$Night;" := ⟨RX4, TX4, 4, tyX4, "OnTiptoe$Reader", rfl, inW4, tyX4_ok, nmX4, by decide, kw459, Or.inl rfl, rfl, rfl⟩
theorem a_X3_clear : noMH yX3_clear.cls ∧ arity yX3_clear.desc 0 := by decide +kernel
theorem a_X4_readWord : noMH yX4_readWord.cls ∧ arity yX4_readWord.desc 0 := by decide +kernel
theorem a_X3_addClause : noMH yX3_addClause.cls ∧ arity yX3_addClause.desc 2 := by decide +kernel
def s_X4_readNight_27 (j6 : gMem → Option (Int32 × gMem)) (L : List Nat) (self7 : Int32 → Int32 → gMem → Option (Int32 × gMem)) (x8 : Int32) (x9 : Int32) (m10 : gMem) : Option (Int32 × gMem) := if (10 : Int32) ≤ x9 then ((j6 m10)) else if x8 = 0 then ((j6 m10)) else bd2 (f_X4_readWord L m10) fun (x12 : Int32) (m11 : gMem) => jn ((fun (x16 : Int32) (m17 : gMem) => if x16 < 0 then (some ((gI m17 30 2), m17)) else bd2 (f_X4_skip L m17 (32 : Int32)) fun (x19 : Int32) (m18 : gMem) => if x19 = 0 then (some ((gI m18 30 2), m18)) else bd2 (f_X4_readEither L m18 (0 : Int32)) fun (x21 : Int32) (m20 : gMem) => if x21 = 0 then (some ((gI m20 30 2), m20)) else oc (gR m20 30 3) none fun g22 => if isN g22 then bd (f_X3_addClause L m20 g22 x12 x16) fun (m23 : gMem) => jn ((fun (x29 : Int32) (m30 : gMem) => lt1 (x9 + (1 : Int32)) fun (x31 : Int32) => (self7 x29 x31 m30)) : Int32 → gMem → Option (Int32 × gMem)) fun j24 => jn ((fun (m28 : gMem) => (j24 (0 : Int32) m28)) : gMem → Option (Int32 × gMem)) fun j25 => if (9 : Int32) ≤ x9 then ((j25 m23)) else bd2 (f_X4_skip L m23 (59 : Int32)) fun (x27 : Int32) (m26 : gMem) => if x27 = 0 then ((j25 m26)) else (j24 (1 : Int32) m26) else none) : Int32 → gMem → Option (Int32 × gMem)) fun j13 => if 0 ≤ x12 then (bd2 (f_X4_readNumber L m11) fun (x15 : Int32) (m14 : gMem) => (j13 x15 m14)) else (j13 (-1 : Int32) m11)
def f_X4_readNight (L : List Nat) (mem : gMem) (o900 : Option Nat) : Option (Int32 × gMem) := oc o900 (some ((0 : Int32), mem)) fun g1 => if isN g1 then lt1 (gsI mem 30 2 (0 : Int32)) fun (m2 : gMem) => lt1 (gsR m2 30 3 (some g1)) fun (m3 : gMem) => oc (gR m3 30 3) none fun g4 => if isN g4 then bd (f_X3_clear L m3 g4) fun (m5 : gMem) => jn ((fun (m32 : gMem) => if (gI m32 30 2) = (gI m32 30 1) then (some ((-5 : Int32), m32)) else some ((gI m32 30 2), m32)) : gMem → Option (Int32 × gMem)) fun j6 => lq3 (s_X4_readNight_27 j6 L) 1000 (1 : Int32) (0 : Int32) m5 else none else none
set_option maxRecDepth 100000 in
set_option maxHeartbeats 4000000 in
theorem c_X4_readNight {l : Launch} {E : State → Prop} {D : va_G} {cy : Nat → ClassId} {ad : Nat → Nat} {L : List Nat} {adK adV : Nat → Nat} {mem : gMem} {o900 : Option Nat} {rv : Int32} {memz : gMem} (hk : gOk ad L) (hL : ∀ o ∈ LX0, o ∈ L) (hE : gEok ad L E) (hSs : ∀ s : State, E s → gS (gA ad L) adK adV s) (h : f_X4_readNight L mem o900 = some (rv, memz)) : gMet l yX4_readNight cX4_readNight 6 (some .int) 193 3863 E D cy shX ad L [.ref (ad 30), va_rf (Option.map ad o900)] mem memz (some (.int rv)) := by
  refine g_go (own := RX4) (by decide +kernel) rfl hE (by cases o900 <;> exact Nat.le_of_ble_eq_true rfl) ?_
  intro p e s m args below meth c R Q hargs hR hQ hEs hC hr hX H locs ls hH hl
  have hF := gF_of hk
  have hl : lv_has ls 6 [(0, .ref (ad 30)), (1, va_rf (Option.map ad o900))] := hl
  refine o_aldn hC dX4_readNight_0 rfl (lv_at hl 1 rfl) ?_
  refine b_nonnull (tgt := 6) hC dX4_readNight_1 (by decide) h (fun ho h => ?_) (fun g1 hyg1 h => ?_)
  · subst ho
    have hl : lv_has ls 6 [(0, .ref (ad 30)), (1, .null)] := hl
    refine lv_iconst (v := 0) hC.x hC.b dX4_readNight_4 rfl ?_
    rw [hQ]
    exact e_i hC hr hH h dX4_readNight_5
  · subst hyg1
    have hl : lv_has ls 6 [(0, .ref (ad 30)), (1, .ref (ad g1))] := hl
    obtain ⟨hNg1, h⟩ := chk h
    refine lv_aload_n hC.x hC.b dX4_readNight_6 rfl (lv_at hl 0 rfl) ?_
    refine lv_iconst (v := 0) hC.x hC.b dX4_readNight_7 rfl ?_
    refine r_puti hC hF hH pl_X4_19_4 (hL _ mX30) sX30 rfl h dX4_readNight_8 (fun m2 H locs h hH => ?_)
    refine lv_aload_n hC.x hC.b dX4_readNight_11 rfl (lv_at hl 0 rfl) ?_
    refine lv_aload_n hC.x hC.b dX4_readNight_12 rfl (lv_at hl 1 rfl) ?_
    refine r_putr (x := (some g1)) hC hF hH pl_X4_22_4 (hL _ mX30) sX30 rfl (by rfl) rfl h dX4_readNight_13 (fun m3 H locs h hH => ?_)
    refine lv_aload_n hC.x hC.b dX4_readNight_16 rfl (lv_at hl 0 rfl) ?_
    refine r_getr hC hH fl_X4_22_4 (hL _ mX30) sX30 rfl dX4_readNight_17 ?_
    refine d_top h (fun g4 hyg4 h => ?_)
    obtain ⟨hNg4, h⟩ := chk h
    obtain ⟨m5, hf5, h⟩ := bd_e h
    refine c_V0 (As := []) (rest := []) (o := g4) (q := (RX3, TX3, 6)) hC hX hE.2.1 hF hH (c_X3_clear (l := l) hk hL hE hNg4 hf5) kw460 kw461 kw462 kw38 kw463 a_X3_clear.1 a_X3_clear.2 (hL _ (mN hNg4 (k := 0) (by decide))) (sN0 hNg4) rfl rfl hl.1 (rmk hR (by decide) (by decide)) (Nat.le_of_ble_eq_true rfl) dX4_readNight_20 (fun H locs hH => ?_)
    refine lv_iconst (v := 1) hC.x hC.b dX4_readNight_23 rfl ?_
    refine lv_istore_n (lv' := [(2, .int (1 : Int32)), (0, .ref (ad 30)), (1, .ref (ad g1))]) hC.x hC.b dX4_readNight_24 rfl hl (by decide) rfl (fun ls hl => ?_)
    refine lv_iconst (v := 0) hC.x hC.b dX4_readNight_25 rfl ?_
    refine lv_istore_n (lv' := [(3, .int (0 : Int32)), (2, .int (1 : Int32)), (0, .ref (ad 30)), (1, .ref (ad g1))]) hC.x hC.b dX4_readNight_26 rfl hl (by decide) rfl (fun ls hl => ?_)
    obtain ⟨j6, ej6, h⟩ := jn_e h
    have hj6 : ∀ (m32 : gMem) (H : Heap) (locs : List Loc) (ls : Array Slot), (j6 m32) = some (rv, memz) → gH D cy shX ad L (gA ad L) s.heap m32 H locs → lv_has ls 6 [(0, .ref (ad 30))] → W p l e R s m args below meth c H locs 0 0 Q (F0 m 123 ls []) := by
      intro m32 H locs ls h hH hl
      have h := ap1 ej6 h
      refine lv_aload_n hC.x hC.b dX4_readNight_123 rfl (lv_at hl 0 rfl) ?_
      refine r_geti hC hH fl_X4_19_4 (hL _ mX30) sX30 rfl dX4_readNight_124 ?_
      refine lv_aload_n hC.x hC.b dX4_readNight_127 rfl (lv_at hl 0 rfl) ?_
      refine r_geti hC hH fl_X4_15_4 (hL _ mX30) sX30 rfl dX4_readNight_128 ?_
      refine b_ic_ne (tgt := 139) hC dX4_readNight_131 (by decide) h (fun h => ?_) (fun h => ?_)
      · refine lv_aload_n hC.x hC.b dX4_readNight_139 rfl (lv_at hl 0 rfl) ?_
        refine r_geti hC hH fl_X4_19_4 (hL _ mX30) sX30 rfl dX4_readNight_140 ?_
        rw [hQ]
        exact e_i hC hr hH h dX4_readNight_143
      · refine lv_bipush (v := -5) hC.x hC.b dX4_readNight_134 rfl ?_
        refine lv_goto (tgt := 143) hC.x hC.b dX4_readNight_136 (by decide) ?_
        rw [hQ]
        exact e_i hC hr hH h dX4_readNight_143
    clear ej6
    have hl7 : ∀ (n : Nat) (x8 : Int32) (x9 : Int32) (m10 : gMem) (H : Heap) (locs : List Loc) (ls : Array Slot), lq3 (s_X4_readNight_27 j6 L) n x8 x9 m10 = some (rv, memz) → gH D cy shX ad L (gA ad L) s.heap m10 H locs → lv_has ls 6 [(0, .ref (ad 30)), (2, .int x8), (3, .int x9)] → W p l e R s m args below meth c H locs 0 0 Q (F0 m 27 ls []) := by
      intro n
      induction n with
      | zero => intro x8 x9 m10 H locs ls h _ _; exact lq3_0 h
      | succ n ih7 =>
        intro x8 x9 m10 H locs ls h hH hl
        obtain ⟨self7, es7, h⟩ := lq3_s h
        refine lv_iload_n hC.x hC.b dX4_readNight_27 rfl (lv_at hl 2 rfl) ?_
        refine lv_bipush (v := 10) hC.x hC.b dX4_readNight_28 rfl ?_
        refine b_ic_ge (tgt := 123) hC dX4_readNight_30 (by decide) h (fun h => ?_) (fun h => ?_)
        · exact hj6 m10 H locs ls h hH (lv_sub hl [0] rfl)
        · refine lv_iload_n hC.x hC.b dX4_readNight_33 rfl (lv_at hl 1 rfl) ?_
          refine b_if_eq (tgt := 123) hC dX4_readNight_34 (by decide) h (fun h => ?_) (fun h => ?_)
          · exact hj6 m10 H locs ls h hH (lv_sub hl [0] rfl)
          · refine lv_aload_n hC.x hC.b dX4_readNight_37 rfl (lv_at hl 0 rfl) ?_
            obtain ⟨x12, m11, hf12, h⟩ := bd2_e h
            refine c_V1 (As := []) (rest := []) (o := 30) (q := (RX4, TX4, 4)) hC hX hE.2.1 hF hH (c_X4_readWord (l := l) hk hL hE hSs hf12) kw465 kw466 kw467 kw24 kw468 a_X4_readWord.1 a_X4_readWord.2 (hL _ mX30) sX30 rfl rfl hl.1 (rmk hR (by decide) (by decide)) (Nat.le_of_ble_eq_true rfl) dX4_readNight_38 (fun H locs hH => ?_)
            refine lv_istore (lv' := [(4, .int x12), (0, .ref (ad 30)), (2, .int x8), (3, .int x9)]) hC.x hC.b dX4_readNight_41 hl (by decide) rfl (fun ls hl => ?_)
            refine lv_iload hC.x hC.b dX4_readNight_43 (lv_at hl 0 rfl) ?_
            obtain ⟨j13, ej13, h⟩ := jn_e h
            have hj13 : ∀ (x16 : Int32) (m17 : gMem) (H : Heap) (locs : List Loc) (ls : Array Slot), (j13 x16 m17) = some (rv, memz) → gH D cy shX ad L (gA ad L) s.heap m17 H locs → lv_has ls 6 [(0, .ref (ad 30)), (3, .int x9), (4, .int x12)] → W p l e R s m args below meth c H locs 0 0 Q (F0 m 56 ls [.int x16]) := by
              intro x16 m17 H locs ls h hH hl
              have h := ap2 ej13 h
              refine lv_istore (lv' := [(5, .int x16), (0, .ref (ad 30)), (3, .int x9), (4, .int x12)]) hC.x hC.b dX4_readNight_56 hl (by decide) rfl (fun ls hl => ?_)
              refine lv_iload hC.x hC.b dX4_readNight_58 (lv_at hl 0 rfl) ?_
              refine b_if_lt (tgt := 80) hC dX4_readNight_60 (by decide) h (fun h => ?_) (fun h => ?_)
              · refine lv_aload_n hC.x hC.b dX4_readNight_80 rfl (lv_at hl 1 rfl) ?_
                refine r_geti hC hH fl_X4_19_4 (hL _ mX30) sX30 rfl dX4_readNight_81 ?_
                rw [hQ]
                exact e_i hC hr hH h dX4_readNight_84
              · refine lv_aload_n hC.x hC.b dX4_readNight_63 rfl (lv_at hl 1 rfl) ?_
                refine lv_bipush (v := 32) hC.x hC.b dX4_readNight_64 rfl ?_
                obtain ⟨x19, m18, hf19, h⟩ := bd2_e h
                refine c_V1 (As := [.int (32 : Int32)]) (rest := []) (o := 30) (q := (RX4, TX4, 4)) hC hX hE.2.1 hF hH (c_X4_skip (l := l) hk hL hE hf19) kw526 kw527 kw528 kw24 kw529 a_X4_skip.1 a_X4_skip.2 (hL _ mX30) sX30 rfl rfl hl.1 (rmk hR (by decide) (by decide)) (Nat.le_of_ble_eq_true rfl) dX4_readNight_66 (fun H locs hH => ?_)
                refine b_if_eq (tgt := 80) hC dX4_readNight_69 (by decide) h (fun h => ?_) (fun h => ?_)
                · refine lv_aload_n hC.x hC.b dX4_readNight_80 rfl (lv_at hl 1 rfl) ?_
                  refine r_geti hC hH fl_X4_19_4 (hL _ mX30) sX30 rfl dX4_readNight_81 ?_
                  rw [hQ]
                  exact e_i hC hr hH h dX4_readNight_84
                · refine lv_aload_n hC.x hC.b dX4_readNight_72 rfl (lv_at hl 1 rfl) ?_
                  refine lv_iconst (v := 0) hC.x hC.b dX4_readNight_73 rfl ?_
                  obtain ⟨x21, m20, hf21, h⟩ := bd2_e h
                  refine c_V1 (As := [.int (0 : Int32)]) (rest := []) (o := 30) (q := (RX4, TX4, 4)) hC hX hE.2.1 hF hH (c_X4_readEither (l := l) hk hL hE hSs hf21) kw535 kw536 kw537 kw24 kw538 a_X4_readEither.1 a_X4_readEither.2 (hL _ mX30) sX30 rfl rfl hl.1 (rmk hR (by decide) (by decide)) (Nat.le_of_ble_eq_true rfl) dX4_readNight_74 (fun H locs hH => ?_)
                  refine b_if_ne (tgt := 85) hC dX4_readNight_77 (by decide) h (fun h => ?_) (fun h => ?_)
                  · refine lv_aload_n hC.x hC.b dX4_readNight_85 rfl (lv_at hl 1 rfl) ?_
                    refine r_getr hC hH fl_X4_22_4 (hL _ mX30) sX30 rfl dX4_readNight_86 ?_
                    refine d_top h (fun g22 hyg22 h => ?_)
                    obtain ⟨hNg22, h⟩ := chk h
                    refine lv_iload hC.x hC.b dX4_readNight_89 (lv_at hl 3 rfl) ?_
                    refine lv_iload hC.x hC.b dX4_readNight_91 (lv_at hl 0 rfl) ?_
                    obtain ⟨m23, hf23, h⟩ := bd_e h
                    refine c_V0 (As := [.int x12, .int x16]) (rest := []) (o := g22) (q := (RX3, TX3, 6)) hC hX hE.2.1 hF hH (c_X3_addClause (l := l) hk hL hE hNg22 hf23) kw625 kw626 kw627 kw38 kw628 a_X3_addClause.1 a_X3_addClause.2 (hL _ (mN hNg22 (k := 0) (by decide))) (sN0 hNg22) rfl rfl hl.1 (rmk hR (by decide) (by decide)) (Nat.le_of_ble_eq_true rfl) dX4_readNight_93 (fun H locs hH => ?_)
                    refine lv_iload_n hC.x hC.b dX4_readNight_96 rfl (lv_at hl 2 rfl) ?_
                    refine lv_bipush (v := 9) hC.x hC.b dX4_readNight_97 rfl ?_
                    obtain ⟨j24, ej24, h⟩ := jn_e h
                    have hj24 : ∀ (x29 : Int32) (m30 : gMem) (H : Heap) (locs : List Loc) (ls : Array Slot), (j24 x29 m30) = some (rv, memz) → gH D cy shX ad L (gA ad L) s.heap m30 H locs → lv_has ls 6 [(0, .ref (ad 30)), (3, .int x9)] → W p l e R s m args below meth c H locs 0 0 Q (F0 m 116 ls [.int x29]) := by
                      intro x29 m30 H locs ls h hH hl
                      have h := ap2 ej24 h
                      refine lv_istore_n (lv' := [(2, .int x29), (0, .ref (ad 30)), (3, .int x9)]) hC.x hC.b dX4_readNight_116 rfl hl (by decide) rfl (fun ls hl => ?_)
                      refine i_inc (lv' := fun x31 => [(3, .int x31), (2, .int x29), (0, .ref (ad 30))]) hC dX4_readNight_117 hl (k := 2) rfl (by decide) (fun _ => rfl) (z := 1) rfl h (fun x31 ls h hl => ?_)
                      refine lv_goto (tgt := 27) hC.x hC.b dX4_readNight_120 (by decide) ?_
                      exact ih7 x29 x31 m30 H locs ls (ap3 es7 h) hH (lv_sub hl [2, 1, 0] rfl)
                    clear ej24
                    obtain ⟨j25, ej25, h⟩ := jn_e h
                    have hj25 : ∀ (m28 : gMem) (H : Heap) (locs : List Loc) (ls : Array Slot), (j25 m28) = some (rv, memz) → gH D cy shX ad L (gA ad L) s.heap m28 H locs → lv_has ls 6 [(0, .ref (ad 30)), (3, .int x9)] → W p l e R s m args below meth c H locs 0 0 Q (F0 m 115 ls []) := by
                      intro m28 H locs ls h hH hl
                      have h := ap1 ej25 h
                      refine lv_iconst (v := 0) hC.x hC.b dX4_readNight_115 rfl ?_
                      exact hj24 (0 : Int32) m28 H locs ls h hH (lv_sub hl [0, 1] rfl)
                    clear ej25
                    refine b_ic_ge (tgt := 115) hC dX4_readNight_99 (by decide) h (fun h => ?_) (fun h => ?_)
                    · exact hj25 m23 H locs ls h hH (lv_sub hl [1, 2] rfl)
                    · refine lv_aload_n hC.x hC.b dX4_readNight_102 rfl (lv_at hl 1 rfl) ?_
                      refine lv_bipush (v := 59) hC.x hC.b dX4_readNight_103 rfl ?_
                      obtain ⟨x27, m26, hf27, h⟩ := bd2_e h
                      refine c_V1 (As := [.int (59 : Int32)]) (rest := []) (o := 30) (q := (RX4, TX4, 4)) hC hX hE.2.1 hF hH (c_X4_skip (l := l) hk hL hE hf27) kw526 kw527 kw528 kw24 kw529 a_X4_skip.1 a_X4_skip.2 (hL _ mX30) sX30 rfl rfl hl.1 (rmk hR (by decide) (by decide)) (Nat.le_of_ble_eq_true rfl) dX4_readNight_105 (fun H locs hH => ?_)
                      refine b_if_eq (tgt := 115) hC dX4_readNight_108 (by decide) h (fun h => ?_) (fun h => ?_)
                      · exact hj25 m26 H locs ls h hH (lv_sub hl [1, 2] rfl)
                      · refine lv_iconst (v := 1) hC.x hC.b dX4_readNight_111 rfl ?_
                        refine lv_goto (tgt := 116) hC.x hC.b dX4_readNight_112 (by decide) ?_
                        exact hj24 (1 : Int32) m26 H locs ls h hH (lv_sub hl [1, 2] rfl)
                  · refine lv_aload_n hC.x hC.b dX4_readNight_80 rfl (lv_at hl 1 rfl) ?_
                    refine r_geti hC hH fl_X4_19_4 (hL _ mX30) sX30 rfl dX4_readNight_81 ?_
                    rw [hQ]
                    exact e_i hC hr hH h dX4_readNight_84
            clear ej13
            refine b_if_ge (tgt := 52) hC dX4_readNight_45 (by decide) h (fun h => ?_) (fun h => ?_)
            · refine lv_aload_n hC.x hC.b dX4_readNight_52 rfl (lv_at hl 1 rfl) ?_
              obtain ⟨x15, m14, hf15, h⟩ := bd2_e h
              refine c_V1 (As := []) (rest := []) (o := 30) (q := (RX4, TX4, 4)) hC hX hE.2.1 hF hH (c_X4_readNumber (l := l) hk hL hE hf15) kw530 kw531 kw532 kw24 kw533 a_X4_readNumber.1 a_X4_readNumber.2 (hL _ mX30) sX30 rfl rfl hl.1 (rmk hR (by decide) (by decide)) (Nat.le_of_ble_eq_true rfl) dX4_readNight_53 (fun H locs hH => ?_)
              exact hj13 x15 m14 H locs ls h hH (lv_sub hl [1, 3, 0] rfl)
            · refine lv_iconst (v := -1) hC.x hC.b dX4_readNight_48 rfl ?_
              refine lv_goto (tgt := 56) hC.x hC.b dX4_readNight_49 (by decide) ?_
              exact hj13 (-1 : Int32) m11 H locs ls h hH (lv_sub hl [1, 3, 0] rfl)
    exact hl7 _ (1 : Int32) (0 : Int32) m5 H locs ls h hH (lv_sub hl [2, 1, 0] rfl)
theorem v_X5_13_begin {p : Program} {l : Launch} {e : Env} {R : Room} {s : State} {m : MethodId} {args : Array Value} {below : List Frame} {meth : Method} {c : Code} {H : Heap} {locs : List Loc} {Q : State → Prop} {cc : ByteArray} {nL : Nat} {pc : Nat} {ls : Array Slot} {rest : List Value} {D : va_G} {cy : Nat → ClassId} {ad : Nat → Nat} {L : List Nat} {mem mem' : gMem} {E : State → Prop} {fr0 lo0 w : Nat} {x0 : Int32}  (hC : gC p s m args meth c cc nL RX5 D cy) (hX : gX (gA ad L) s E) (hk : gOk ad L) (hL : ∀ o ∈ LX0, o ∈ L) (hE : gEok ad L E) (hF : gF ad L (gA ad L)) (hH : gH D cy shX ad L (gA ad L) s.heap mem H locs) (hw : wok L w) (hk0 : wkd w = 3 ∨ wkd w = 6) (hf : f_X9_begin L mem w x0 = some mem') (hls : ls.size = nL) (hR : R = gRm fr0 lo0) (h1 : 1 ≤ fr0) (h2 : 21 ≤ lo0) (hW : (rest.map fun v => v.category).sum ≤ 8) (hdg : decode cc pc = .ok (.invokevirtual 13, 3))
    (kk : ∀ (H1 : Heap) (locs1 : List Loc), gH D cy shX ad L (gA ad L) s.heap mem' H1 locs1 → W p l e R s m args below meth c H1 locs1 0 0 Q (F0 m (pc + 3) ls rest)) : W p l e R s m args below meth c H locs 0 0 Q (F0 m pc ls (.int x0 :: .ref (ad w) :: rest)) := by
  by_cases hc : wkd w = 3
  · exact c_U0 (As := [.int x0]) (rest := rest) (o := w) (x := ⟨"OnTiptoe$Slow", "begin", "(I)V"⟩) (owner := "OnTiptoe$Walker") (b0 := cX9_begin) (m0 := 2) (r0 := none) (q := (RX5, TX5, 6)) hC hX hE.2.1 hF hH (c_X9_begin (l := l) (mem := mem) hk hL hE hw hf) kw1219 kw1220 kw1221 kw221 kw1135 kw1134 kw1134 kw1135 (by decide +kernel) a_X9_begin.2 hw.2.2.2.1 (sWk hw hc) rfl rfl hls (rmk hR (by omega) (by omega)) hW hdg kk
  have hz3 := hc
  clear hc
  have hc : wkd w = 6 := by omega
  exact c_U0 (As := [.int x0]) (rest := rest) (o := w) (x := ⟨"OnTiptoe$Slow", "begin", "(I)V"⟩) (owner := "OnTiptoe$Walker") (b0 := cX9_begin) (m0 := 2) (r0 := none) (q := (RX8, TX8, 8)) hC hX hE.2.1 hF hH (c_X9_begin (l := l) (mem := mem) hk hL hE hw hf) kw1219 kw1220 kw1222 kw221 kw1135 kw1134 kw1134 kw1135 (by decide +kernel) a_X9_begin.2 hw.2.2.2.1 (sWk hw hc) rfl rfl hls (rmk hR (by omega) (by omega)) hW hdg kk
theorem u_X5_19 {p : Program} {l : Launch} {e : Env} {R : Room} {s : State} {m : MethodId} {args : Array Value} {below : List Frame} {meth : Method} {c : Code} {H : Heap} {locs : List Loc} {cells slots : Nat} {Q : State → Prop} {cc : ByteArray} {nL : Nat} {pc : Nat} {ls : Array Slot} {rest As : List Value} {D : va_G} {cy : Nat → ClassId} {ad : Nat → Nat} {L : List Nat} {A : Nat → Prop} {mem mem' : gMem} {E : State → Prop} {fr lo w : Nat} {v : Value} (hC : gC p s m args meth c cc nL RX5 D cy) (hX : gX A s E) (hB : eBl E) (hF : gF ad L A) (hH : gH D cy shX ad L A s.heap mem H locs) (hM : gMet l yX9_actTells cX9_actTells 2 (some .int) fr lo E D cy shX ad L (.ref (ad w) :: As) mem mem' (some v)) (hw : wok L w) (hk : wkd w = 3 ∨ wkd w = 6) (hn : As.length = 1) (hls : ls.size = nL) (hR : fr + 1 ≤ R.frames ∧ 8 + (2 + 11) + lo ≤ R.locals ∧ cells ≤ R.cells ∧ slots ≤ R.slots) (hW : (rest.map fun v => v.category).sum ≤ 8) (hdg : decode cc pc = .ok (.invokespecial 19, 3))
    (kk : ∀ (H1 : Heap) (locs1 : List Loc), gH D cy shX ad L A s.heap mem' H1 locs1 → W p l e R s m args below meth c H1 locs1 cells slots Q (F0 m (pc + 3) ls (v :: rest))) : W p l e R s m args below meth c H locs cells slots Q (F0 m pc ls (As.reverse ++ .ref (ad w) :: rest)) := by
  rcases hk with hk | hk
  · exact c_SU1 (q := (RX5, TX5, 6)) hC hX hB hF hH hM kw1223 kw1201 kw1224 kw221 kw1211 kw1202 (by decide +kernel) a_X9_actTells.2 hw.2.2.2.1 (sWk hw hk) rfl hn hls hR hW hdg kk
  · exact c_SU1 (q := (RX8, TX8, 8)) hC hX hB hF hH hM kw1223 kw1201 kw1224 kw221 kw1211 kw1202 (by decide +kernel) a_X9_actTells.2 hw.2.2.2.1 (sWk hw hk) rfl hn hls hR hW hdg kk
def d_actGoes_36 (L : List Nat) (mem : gMem) (w : Nat) (x0 : Int32) : Option (Int32 × gMem) := if wkd w = 3 then f_X9_actGoes L mem w x0 else f_X8_actGoes L mem w x0
theorem v_X5_23_actGoes {p : Program} {l : Launch} {e : Env} {R : Room} {s : State} {m : MethodId} {args : Array Value} {below : List Frame} {meth : Method} {c : Code} {H : Heap} {locs : List Loc} {Q : State → Prop} {cc : ByteArray} {nL : Nat} {pc : Nat} {ls : Array Slot} {rest : List Value} {D : va_G} {cy : Nat → ClassId} {ad : Nat → Nat} {L : List Nat} {mem mem' : gMem} {E : State → Prop} {fr0 lo0 w : Nat} {x0 : Int32} {rv : Int32} (hC : gC p s m args meth c cc nL RX5 D cy) (hX : gX (gA ad L) s E) (hk : gOk ad L) (hL : ∀ o ∈ LX0, o ∈ L) (hE : gEok ad L E) (hF : gF ad L (gA ad L)) (hH : gH D cy shX ad L (gA ad L) s.heap mem H locs) (hw : wok L w) (hk0 : wkd w = 3 ∨ wkd w = 6) (hf : d_actGoes_36 L mem w x0 = some (rv, mem')) (hls : ls.size = nL) (hR : R = gRm fr0 lo0) (h1 : 5 ≤ fr0) (h2 : 105 ≤ lo0) (hW : (rest.map fun v => v.category).sum ≤ 8) (hdg : decode cc pc = .ok (.invokevirtual 23, 3))
    (kk : ∀ (H1 : Heap) (locs1 : List Loc), gH D cy shX ad L (gA ad L) s.heap mem' H1 locs1 → W p l e R s m args below meth c H1 locs1 0 0 Q (F0 m (pc + 3) ls (.int rv :: rest))) : W p l e R s m args below meth c H locs 0 0 Q (F0 m pc ls (.int x0 :: .ref (ad w) :: rest)) := by
  unfold d_actGoes_36 at hf
  by_cases hc : wkd w = 3
  · have hf := ifp hc hf
    exact c_U1 (As := [.int x0]) (rest := rest) (o := w) (x := ⟨"OnTiptoe$Slow", "actGoes", "(I)I"⟩) (owner := "OnTiptoe$Walker") (b0 := cX9_actGoes) (m0 := 2) (r0 := (some .int)) (q := (RX5, TX5, 6)) hC hX hE.2.1 hF hH (c_X9_actGoes (l := l) (mem := mem) hk hL hE hw hf) kw1225 kw1226 kw1227 kw221 kw1175 kw1174 kw1174 kw1175 (by decide +kernel) a_X9_actGoes.2 hw.2.2.2.1 (sWk hw hc) rfl rfl hls (rmk hR (by omega) (by omega)) hW hdg kk
  have hf := ifn hc hf
  have hz3 := hc
  clear hc
  have hc : wkd w = 6 := by omega
  exact c_U1 (As := [.int x0]) (rest := rest) (o := w) (x := ⟨"OnTiptoe$Slow", "actGoes", "(I)I"⟩) (owner := "OnTiptoe$Walker") (b0 := cX9_actGoes) (m0 := 2) (r0 := (some .int)) (q := (RX8, TX8, 8)) hC hX hE.2.1 hF hH (c_X8_actGoes (l := l) (mem := mem) hk hL hE hw (by omega) hf) kw1225 kw1226 kw1228 kw219 kw1197 kw1196 kw1174 kw1175 (by decide +kernel) a_X8_actGoes.2 hw.2.2.2.1 (sWk hw hc) rfl rfl hls (rmk hR (by omega) (by omega)) hW hdg kk
def f_X5_actTells (L : List Nat) (mem : gMem) (w0 : Nat) (p0 : Int32) : Option (Int32 × gMem) := bd (f_X9_begin L mem w0 (40 : Int32)) fun (m1 : gMem) => bd2 (f_X9_actTells L m1 w0 p0) fun (x3 : Int32) (m2 : gMem) => bd2 (d_actGoes_36 L m2 w0 (1 : Int32)) fun (x5 : Int32) (m4 : gMem) => some ((x3 + x5), m4)
set_option maxRecDepth 100000 in
set_option maxHeartbeats 4000000 in
theorem c_X5_actTells {l : Launch} {E : State → Prop} {D : va_G} {cy : Nat → ClassId} {ad : Nat → Nat} {L : List Nat} {mem : gMem} {w0 : Nat} {p0 : Int32} {rv : Int32} {memz : gMem} (hk : gOk ad L) (hL : ∀ o ∈ LX0, o ∈ L) (hE : gEok ad L E) (hw0 : wok L w0) (hkd : wkd w0 = 3 ∨ wkd w0 = 6) (h : f_X5_actTells L mem w0 p0 = some (rv, memz)) : gMet l yX5_actTells cX5_actTells 2 (some .int) 7 147 E D cy shX ad L [.ref (ad w0), .int p0] mem memz (some (.int rv)) := by
  refine g_go (own := RX5) (by decide +kernel) rfl hE (Nat.le_of_ble_eq_true rfl) ?_
  intro p e s m args below meth c R Q hargs hR hQ hEs hC hr hX H locs ls hH hl
  have hF := gF_of hk
  have hl : lv_has ls 2 [(0, .ref (ad w0)), (1, .int p0)] := hl
  refine lv_aload_n hC.x hC.b dX5_actTells_0 rfl (lv_at hl 0 rfl) ?_
  refine lv_bipush (v := 40) hC.x hC.b dX5_actTells_1 rfl ?_
  obtain ⟨m1, hf1, h⟩ := bd_e h
  refine v_X5_13_begin hC hX hk hL hE hF hH hw0 hkd hf1 hl.1 hR (by decide) (by decide) (Nat.le_of_ble_eq_true rfl) dX5_actTells_3 (fun H locs hH => ?_)
  refine lv_aload_n hC.x hC.b dX5_actTells_6 rfl (lv_at hl 0 rfl) ?_
  refine lv_iload_n hC.x hC.b dX5_actTells_7 rfl (lv_at hl 1 rfl) ?_
  obtain ⟨x3, m2, hf3, h⟩ := bd2_e h
  refine u_X5_19 (As := [.int p0]) (rest := []) hC hX hE.2.1 hF hH (c_X9_actTells (l := l) hk hL hE hw0 hf3) hw0 hkd rfl hl.1 (rmk hR (by decide) (by decide)) (Nat.le_of_ble_eq_true rfl) dX5_actTells_8 (fun H locs hH => ?_)
  refine lv_aload_n hC.x hC.b dX5_actTells_11 rfl (lv_at hl 0 rfl) ?_
  refine lv_iconst (v := 1) hC.x hC.b dX5_actTells_12 rfl ?_
  obtain ⟨x5, m4, hf5, h⟩ := bd2_e h
  refine v_X5_23_actGoes hC hX hk hL hE hF hH hw0 hkd hf5 hl.1 hR (by decide) (by decide) (Nat.le_of_ble_eq_true rfl) dX5_actTells_13 (fun H locs hH => ?_)
  refine lv_iadd hC.x hC.b dX5_actTells_16 ?_
  rw [hQ]
  exact e_i hC hr hH h dX5_actTells_17
theorem fl_X11_29_11 : gFl RX11 29 11 4 := ⟨RX11, TX11, 13, "OnTiptoe", rfl, inW11, by decide, kw21, Or.inl rfl⟩
theorem a_X4_readNight : noMH yX4_readNight.cls ∧ arity yX4_readNight.desc 1 := by decide +kernel
theorem pl_X11_119_4 : gPl RX11 119 4 1 "I" := ⟨RX4, TX4, 4, tyX4, "OnTiptoe$Reader", rfl, inW4, tyX4_ok, nmX4, by decide, kw438, Or.inl rfl, rfl, rfl⟩
theorem pl_X11_129_2 : gPl RX11 129 2 15 "LOnTiptoe$Night;" := ⟨RX2, TX2, 17, tyX2, "OnTiptoe$House", rfl, inW2, tyX2_ok, nmX2, by decide, kw453, Or.inl rfl, rfl, rfl⟩
theorem pl_X11_122_11 : gPl RX11 122 11 5 "I" := ⟨RX11, TX11, 13, tyX11, "OnTiptoe", rfl, inW11, tyX11_ok, nmX11, by decide, kw452, Or.inl rfl, rfl, rfl⟩
def f_X11_night (L : List Nat) (mem : gMem) : Option (Int32 × gMem) := if (gI mem 0 5) < 0 then (some ((-4 : Int32), mem)) else if (gI mem 0 5) < (6 : Int32) then (if okI (gI mem 0 5) 6 then oc (gR mem 2 (ix (gI mem 0 5))) none fun g1 => if isN g1 then bd2 (f_X4_readNight L mem (some g1)) fun (x3 : Int32) (m2 : gMem) => lt1 (gsI m2 30 1 (0 : Int32)) fun (m4 : gMem) => if x3 = (-5 : Int32) then (if okI (gI m4 0 5) 6 then lt1 (gsR m4 10 15 (gR m4 2 (ix (gI m4 0 5)))) fun (m5 : gMem) => lt1 (gsI m5 0 5 ((gI m5 0 5) + (1 : Int32))) fun (m6 : gMem) => some (((gI m6 0 5) - (1 : Int32)), m6) else none) else some (((-10 : Int32) - x3), m4) else none else none) else some ((-4 : Int32), mem)
set_option maxRecDepth 100000 in
set_option maxHeartbeats 4000000 in
theorem c_X11_night {l : Launch} {E : State → Prop} {D : va_G} {cy : Nat → ClassId} {ad : Nat → Nat} {L : List Nat} {adK adV : Nat → Nat} {mem : gMem} {rv : Int32} {memz : gMem} (hk : gOk ad L) (hL : ∀ o ∈ LX0, o ∈ L) (hE : gEok ad L E) (hSs : ∀ s : State, E s → gS (gA ad L) adK adV s) (h : f_X11_night L mem = some (rv, memz)) : gMet l yX11_night cX11_night 2 (some .int) 194 3888 E D cy shX ad L [.ref (ad 0)] mem memz (some (.int rv)) := by
  refine g_go (own := RX11) (by decide +kernel) rfl hE (Nat.le_of_ble_eq_true rfl) ?_
  intro p e s m args below meth c R Q hargs hR hQ hEs hC hr hX H locs ls hH hl
  have hF := gF_of hk
  have hl : lv_has ls 2 [(0, .ref (ad 0))] := hl
  refine lv_aload_n hC.x hC.b dX11_night_0 rfl (lv_at hl 0 rfl) ?_
  refine r_geti hC hH fl_X11_122_11 (hL _ mX0) sX0 rfl dX11_night_1 ?_
  refine b_if_lt (tgt := 16) hC dX11_night_4 (by decide) h (fun h => ?_) (fun h => ?_)
  · refine lv_bipush (v := -4) hC.x hC.b dX11_night_16 rfl ?_
    rw [hQ]
    exact e_i hC hr hH h dX11_night_18
  · refine lv_aload_n hC.x hC.b dX11_night_7 rfl (lv_at hl 0 rfl) ?_
    refine r_geti hC hH fl_X11_122_11 (hL _ mX0) sX0 rfl dX11_night_8 ?_
    refine lv_bipush (v := 6) hC.x hC.b dX11_night_11 rfl ?_
    refine b_ic_lt (tgt := 19) hC dX11_night_13 (by decide) h (fun h => ?_) (fun h => ?_)
    · refine lv_aload_n hC.x hC.b dX11_night_19 rfl (lv_at hl 0 rfl) ?_
      refine r_getc (z := 30) hC hH fl_X11_36_11 (hL _ mX0) sX0 rfl dX11_night_20 ?_
      refine lv_aload_n hC.x hC.b dX11_night_23 rfl (lv_at hl 0 rfl) ?_
      refine r_getc (z := 2) hC hH fl_X11_29_11 (hL _ mX0) sX0 rfl dX11_night_24 ?_
      refine lv_aload_n hC.x hC.b dX11_night_27 rfl (lv_at hl 0 rfl) ?_
      refine r_geti hC hH fl_X11_122_11 (hL _ mX0) sX0 rfl dX11_night_28 ?_
      refine r_aald (t := 0) hC hH (hL _ mX2) sX2 rfl rfl h dX11_night_31 (fun h => ?_)
      refine d_top h (fun g1 hyg1 h => ?_)
      obtain ⟨hNg1, h⟩ := chk h
      obtain ⟨x3, m2, hf3, h⟩ := bd2_e h
      refine c_V1 (As := [.ref (ad g1)]) (rest := []) (o := 30) (q := (RX4, TX4, 4)) hC hX hE.2.1 hF hH (c_X4_readNight (l := l) hk hL hE hSs hf3) kw454 kw455 kw456 kw24 kw457 a_X4_readNight.1 a_X4_readNight.2 (hL _ mX30) sX30 rfl rfl hl.1 (rmk hR (by decide) (by decide)) (Nat.le_of_ble_eq_true rfl) dX11_night_32 (fun H locs hH => ?_)
      refine lv_istore_n (lv' := [(1, .int x3), (0, .ref (ad 0))]) hC.x hC.b dX11_night_35 rfl hl (by decide) rfl (fun ls hl => ?_)
      refine lv_aload_n hC.x hC.b dX11_night_36 rfl (lv_at hl 1 rfl) ?_
      refine r_getc (z := 30) hC hH fl_X11_36_11 (hL _ mX0) sX0 rfl dX11_night_37 ?_
      refine lv_iconst (v := 0) hC.x hC.b dX11_night_40 rfl ?_
      refine r_puti hC hF hH pl_X11_119_4 (hL _ mX30) sX30 rfl h dX11_night_41 (fun m4 H locs h hH => ?_)
      refine lv_iload_n hC.x hC.b dX11_night_44 rfl (lv_at hl 0 rfl) ?_
      refine lv_bipush (v := -5) hC.x hC.b dX11_night_45 rfl ?_
      refine b_ic_eq (tgt := 55) hC dX11_night_47 (by decide) h (fun h => ?_) (fun h => ?_)
      · refine lv_aload_n hC.x hC.b dX11_night_55 rfl (lv_at hl 1 rfl) ?_
        refine r_getc (z := 10) hC hH fl_X11_12_11 (hL _ mX0) sX0 rfl dX11_night_56 ?_
        refine lv_aload_n hC.x hC.b dX11_night_59 rfl (lv_at hl 1 rfl) ?_
        refine r_getc (z := 2) hC hH fl_X11_29_11 (hL _ mX0) sX0 rfl dX11_night_60 ?_
        refine lv_aload_n hC.x hC.b dX11_night_63 rfl (lv_at hl 1 rfl) ?_
        refine r_geti hC hH fl_X11_122_11 (hL _ mX0) sX0 rfl dX11_night_64 ?_
        refine r_aald (t := 0) hC hH (hL _ mX2) sX2 rfl rfl h dX11_night_67 (fun h => ?_)
        refine r_putr (x := (gR m4 2 (ix (gI m4 0 5)))) hC hF hH pl_X11_129_2 (hL _ mX10) sX10 rfl (by rfl) rfl h dX11_night_68 (fun m5 H locs h hH => ?_)
        refine lv_aload_n hC.x hC.b dX11_night_71 rfl (lv_at hl 1 rfl) ?_
        refine lv_dup hC.x hC.b dX11_night_72 rfl ?_
        refine r_geti hC hH fl_X11_122_11 (hL _ mX0) sX0 rfl dX11_night_73 ?_
        refine lv_iconst (v := 1) hC.x hC.b dX11_night_76 rfl ?_
        refine lv_iadd hC.x hC.b dX11_night_77 ?_
        refine r_puti hC hF hH pl_X11_122_11 (hL _ mX0) sX0 rfl h dX11_night_78 (fun m6 H locs h hH => ?_)
        refine lv_aload_n hC.x hC.b dX11_night_81 rfl (lv_at hl 1 rfl) ?_
        refine r_geti hC hH fl_X11_122_11 (hL _ mX0) sX0 rfl dX11_night_82 ?_
        refine lv_iconst (v := 1) hC.x hC.b dX11_night_85 rfl ?_
        refine lv_isub hC.x hC.b dX11_night_86 ?_
        rw [hQ]
        exact e_i hC hr hH h dX11_night_87
      · refine lv_bipush (v := -10) hC.x hC.b dX11_night_50 rfl ?_
        refine lv_iload_n hC.x hC.b dX11_night_52 rfl (lv_at hl 0 rfl) ?_
        refine lv_isub hC.x hC.b dX11_night_53 ?_
        rw [hQ]
        exact e_i hC hr hH h dX11_night_54
    · refine lv_bipush (v := -4) hC.x hC.b dX11_night_16 rfl ?_
      rw [hQ]
      exact e_i hC hr hH h dX11_night_18
theorem pl_X11_251_11 : gPl RX11 251 11 8 "LOnTiptoe$Walker;" := ⟨RX11, TX11, 13, tyX11, "OnTiptoe", rfl, inW11, tyX11_ok, nmX11, by decide, kw1123, Or.inl rfl, rfl, rfl⟩
theorem pw_X11_255 : ∀ j, j < 7 → gPl RX11 255 (kci j) 5 "I" := by
  intro j hj
  rcases (show j = 0 ∨ j = 1 ∨ j = 2 ∨ j = 3 ∨ j = 4 ∨ j = 5 ∨ j = 6 by omega) with rfl | rfl | rfl | rfl | rfl | rfl | rfl
  · exact ⟨RX9, TX9, 6, tyX9, "OnTiptoe$Walker", rfl, inW9, tyX9_ok, nmX9, by decide, kw1124, Or.inl rfl, rfl, rfl⟩
  · exact ⟨RX1, TX1, 6, tyX1, "OnTiptoe$Walker", rfl, inW1, tyX1_ok, nmX1, by decide, kw1124, Or.inl rfl, rfl, rfl⟩
  · exact ⟨RX6, TX6, 6, tyX6, "OnTiptoe$Walker", rfl, inW6, tyX6_ok, nmX6, by decide, kw1124, Or.inl rfl, rfl, rfl⟩
  · exact ⟨RX5, TX5, 6, tyX5, "OnTiptoe$Walker", rfl, inW5, tyX5_ok, nmX5, by decide, kw1124, Or.inl rfl, rfl, rfl⟩
  · exact ⟨RX7, TX7, 6, tyX7, "OnTiptoe$Walker", rfl, inW7, tyX7_ok, nmX7, by decide, kw1124, Or.inl rfl, rfl, rfl⟩
  · exact ⟨RX0, TX0, 6, tyX0, "OnTiptoe$Walker", rfl, inW0, tyX0_ok, nmX0, by decide, kw1124, Or.inl rfl, rfl, rfl⟩
  · exact ⟨RX8, TX8, 8, tyX8, "OnTiptoe$Walker", rfl, inW8, tyX8_ok, nmX8, by decide, kw1124, Or.inl rfl, rfl, rfl⟩
def d_actTells (L : List Nat) (mem : gMem) (w : Nat) (x0 : Int32) : Option (Int32 × gMem) := if wkd w = 0 then f_X9_actTells L mem w x0 else if wkd w = 1 then f_X9_actTells L mem w x0 else if wkd w = 2 then f_X9_actTells L mem w x0 else if wkd w = 3 then f_X5_actTells L mem w x0 else if wkd w = 4 then f_X9_actTells L mem w x0 else if wkd w = 5 then f_X0_actTells L mem w x0 else f_X5_actTells L mem w x0
theorem a_X5_actTells : noMH yX5_actTells.cls ∧ arity yX5_actTells.desc 1 := by decide +kernel
theorem a_X0_actTells : noMH yX0_actTells.cls ∧ arity yX0_actTells.desc 1 := by decide +kernel
theorem v_X11_264_actTells {p : Program} {l : Launch} {e : Env} {R : Room} {s : State} {m : MethodId} {args : Array Value} {below : List Frame} {meth : Method} {c : Code} {H : Heap} {locs : List Loc} {Q : State → Prop} {cc : ByteArray} {nL : Nat} {pc : Nat} {ls : Array Slot} {rest : List Value} {D : va_G} {cy : Nat → ClassId} {ad : Nat → Nat} {L : List Nat} {mem mem' : gMem} {E : State → Prop} {fr0 lo0 w : Nat} {x0 : Int32} {rv : Int32} (hC : gC p s m args meth c cc nL RX11 D cy) (hX : gX (gA ad L) s E) (hk : gOk ad L) (hL : ∀ o ∈ LX0, o ∈ L) (hE : gEok ad L E) (hF : gF ad L (gA ad L)) (hH : gH D cy shX ad L (gA ad L) s.heap mem H locs) (hw : wok L w) (hf : d_actTells L mem w x0 = some (rv, mem')) (hls : ls.size = nL) (hR : R = gRm fr0 lo0) (h1 : 8 ≤ fr0) (h2 : 168 ≤ lo0) (hW : (rest.map fun v => v.category).sum ≤ 8) (hdg : decode cc pc = .ok (.invokevirtual 264, 3))
    (kk : ∀ (H1 : Heap) (locs1 : List Loc), gH D cy shX ad L (gA ad L) s.heap mem' H1 locs1 → W p l e R s m args below meth c H1 locs1 0 0 Q (F0 m (pc + 3) ls (.int rv :: rest))) : W p l e R s m args below meth c H locs 0 0 Q (F0 m pc ls (.int x0 :: .ref (ad w) :: rest)) := by
  have hk7 := hw.2.2.1
  unfold d_actTells at hf
  by_cases hc : wkd w = 0
  · have hf := ifp hc hf
    exact c_U1 (As := [.int x0]) (rest := rest) (o := w) (x := ⟨"OnTiptoe$Walker", "actTells", "(I)I"⟩) (owner := "OnTiptoe$Walker") (b0 := cX9_actTells) (m0 := 2) (r0 := (some .int)) (q := (RX9, TX9, 6)) hC hX hE.2.1 hF hH (c_X9_actTells (l := l) (mem := mem) hk hL hE hw hf) kw1200 kw1201 kw1233 kw221 kw1211 kw1202 kw1202 kw1211 (by decide +kernel) a_X9_actTells.2 hw.2.2.2.1 (sWk hw hc) rfl rfl hls (rmk hR (by omega) (by omega)) hW hdg kk
  have hf := ifn hc hf
  have hz0 := hc
  clear hc
  by_cases hc : wkd w = 1
  · have hf := ifp hc hf
    exact c_U1 (As := [.int x0]) (rest := rest) (o := w) (x := ⟨"OnTiptoe$Walker", "actTells", "(I)I"⟩) (owner := "OnTiptoe$Walker") (b0 := cX9_actTells) (m0 := 2) (r0 := (some .int)) (q := (RX1, TX1, 6)) hC hX hE.2.1 hF hH (c_X9_actTells (l := l) (mem := mem) hk hL hE hw hf) kw1200 kw1201 kw1212 kw221 kw1211 kw1202 kw1202 kw1211 (by decide +kernel) a_X9_actTells.2 hw.2.2.2.1 (sWk hw hc) rfl rfl hls (rmk hR (by omega) (by omega)) hW hdg kk
  have hf := ifn hc hf
  have hz1 := hc
  clear hc
  by_cases hc : wkd w = 2
  · have hf := ifp hc hf
    exact c_U1 (As := [.int x0]) (rest := rest) (o := w) (x := ⟨"OnTiptoe$Walker", "actTells", "(I)I"⟩) (owner := "OnTiptoe$Walker") (b0 := cX9_actTells) (m0 := 2) (r0 := (some .int)) (q := (RX6, TX6, 6)) hC hX hE.2.1 hF hH (c_X9_actTells (l := l) (mem := mem) hk hL hE hw hf) kw1200 kw1201 kw1229 kw221 kw1211 kw1202 kw1202 kw1211 (by decide +kernel) a_X9_actTells.2 hw.2.2.2.1 (sWk hw hc) rfl rfl hls (rmk hR (by omega) (by omega)) hW hdg kk
  have hf := ifn hc hf
  have hz2 := hc
  clear hc
  by_cases hc : wkd w = 3
  · have hf := ifp hc hf
    exact c_U1 (As := [.int x0]) (rest := rest) (o := w) (x := ⟨"OnTiptoe$Walker", "actTells", "(I)I"⟩) (owner := "OnTiptoe$Walker") (b0 := cX9_actTells) (m0 := 2) (r0 := (some .int)) (q := (RX5, TX5, 6)) hC hX hE.2.1 hF hH (c_X5_actTells (l := l) (mem := mem) hk hL hE hw (by omega) hf) kw1200 kw1201 kw1216 kw210 kw1218 kw1217 kw1202 kw1211 (by decide +kernel) a_X5_actTells.2 hw.2.2.2.1 (sWk hw hc) rfl rfl hls (rmk hR (by omega) (by omega)) hW hdg kk
  have hf := ifn hc hf
  have hz3 := hc
  clear hc
  by_cases hc : wkd w = 4
  · have hf := ifp hc hf
    exact c_U1 (As := [.int x0]) (rest := rest) (o := w) (x := ⟨"OnTiptoe$Walker", "actTells", "(I)I"⟩) (owner := "OnTiptoe$Walker") (b0 := cX9_actTells) (m0 := 2) (r0 := (some .int)) (q := (RX7, TX7, 6)) hC hX hE.2.1 hF hH (c_X9_actTells (l := l) (mem := mem) hk hL hE hw hf) kw1200 kw1201 kw1230 kw221 kw1211 kw1202 kw1202 kw1211 (by decide +kernel) a_X9_actTells.2 hw.2.2.2.1 (sWk hw hc) rfl rfl hls (rmk hR (by omega) (by omega)) hW hdg kk
  have hf := ifn hc hf
  have hz4 := hc
  clear hc
  by_cases hc : wkd w = 5
  · have hf := ifp hc hf
    exact c_U1 (As := [.int x0]) (rest := rest) (o := w) (x := ⟨"OnTiptoe$Walker", "actTells", "(I)I"⟩) (owner := "OnTiptoe$Walker") (b0 := cX9_actTells) (m0 := 2) (r0 := (some .int)) (q := (RX0, TX0, 6)) hC hX hE.2.1 hF hH (c_X0_actTells (l := l) (mem := mem) hk hL hE hw (by omega) hf) kw1200 kw1201 kw1203 kw216 kw1205 kw1204 kw1202 kw1211 (by decide +kernel) a_X0_actTells.2 hw.2.2.2.1 (sWk hw hc) rfl rfl hls (rmk hR (by omega) (by omega)) hW hdg kk
  have hf := ifn hc hf
  have hz5 := hc
  clear hc
  have hc : wkd w = 6 := by omega
  exact c_U1 (As := [.int x0]) (rest := rest) (o := w) (x := ⟨"OnTiptoe$Walker", "actTells", "(I)I"⟩) (owner := "OnTiptoe$Walker") (b0 := cX9_actTells) (m0 := 2) (r0 := (some .int)) (q := (RX8, TX8, 8)) hC hX hE.2.1 hF hH (c_X5_actTells (l := l) (mem := mem) hk hL hE hw (by omega) hf) kw1200 kw1201 kw1231 kw210 kw1218 kw1217 kw1202 kw1211 (by decide +kernel) a_X5_actTells.2 hw.2.2.2.1 (sWk hw hc) rfl rfl hls (rmk hR (by omega) (by omega)) hW hdg kk
theorem v_X11_261_actGoes {p : Program} {l : Launch} {e : Env} {R : Room} {s : State} {m : MethodId} {args : Array Value} {below : List Frame} {meth : Method} {c : Code} {H : Heap} {locs : List Loc} {Q : State → Prop} {cc : ByteArray} {nL : Nat} {pc : Nat} {ls : Array Slot} {rest : List Value} {D : va_G} {cy : Nat → ClassId} {ad : Nat → Nat} {L : List Nat} {mem mem' : gMem} {E : State → Prop} {fr0 lo0 w : Nat} {x0 : Int32} {rv : Int32} (hC : gC p s m args meth c cc nL RX11 D cy) (hX : gX (gA ad L) s E) (hk : gOk ad L) (hL : ∀ o ∈ LX0, o ∈ L) (hE : gEok ad L E) (hF : gF ad L (gA ad L)) (hH : gH D cy shX ad L (gA ad L) s.heap mem H locs) (hw : wok L w) (hf : d_actGoes L mem w x0 = some (rv, mem')) (hls : ls.size = nL) (hR : R = gRm fr0 lo0) (h1 : 6 ≤ fr0) (h2 : 126 ≤ lo0) (hW : (rest.map fun v => v.category).sum ≤ 8) (hdg : decode cc pc = .ok (.invokevirtual 261, 3))
    (kk : ∀ (H1 : Heap) (locs1 : List Loc), gH D cy shX ad L (gA ad L) s.heap mem' H1 locs1 → W p l e R s m args below meth c H1 locs1 0 0 Q (F0 m (pc + 3) ls (.int rv :: rest))) : W p l e R s m args below meth c H locs 0 0 Q (F0 m pc ls (.int x0 :: .ref (ad w) :: rest)) := by
  have hk7 := hw.2.2.1
  unfold d_actGoes at hf
  by_cases hc : wkd w = 0
  · have hf := ifp hc hf
    exact c_U1 (As := [.int x0]) (rest := rest) (o := w) (x := ⟨"OnTiptoe$Walker", "actGoes", "(I)I"⟩) (owner := "OnTiptoe$Walker") (b0 := cX9_actGoes) (m0 := 2) (r0 := (some .int)) (q := (RX9, TX9, 6)) hC hX hE.2.1 hF hH (c_X9_actGoes (l := l) (mem := mem) hk hL hE hw hf) kw1171 kw1172 kw1199 kw221 kw1175 kw1174 kw1174 kw1175 (by decide +kernel) a_X9_actGoes.2 hw.2.2.2.1 (sWk hw hc) rfl rfl hls (rmk hR (by omega) (by omega)) hW hdg kk
  have hf := ifn hc hf
  have hz0 := hc
  clear hc
  by_cases hc : wkd w = 1
  · have hf := ifp hc hf
    exact c_U1 (As := [.int x0]) (rest := rest) (o := w) (x := ⟨"OnTiptoe$Walker", "actGoes", "(I)I"⟩) (owner := "OnTiptoe$Walker") (b0 := cX9_actGoes) (m0 := 2) (r0 := (some .int)) (q := (RX1, TX1, 6)) hC hX hE.2.1 hF hH (c_X1_actGoes (l := l) (mem := mem) hk hL hE hw (by omega) hf) kw1171 kw1172 kw1179 kw204 kw1181 kw1180 kw1174 kw1175 (by decide +kernel) a_X1_actGoes.2 hw.2.2.2.1 (sWk hw hc) rfl rfl hls (rmk hR (by omega) (by omega)) hW hdg kk
  have hf := ifn hc hf
  have hz1 := hc
  clear hc
  by_cases hc : wkd w = 2
  · have hf := ifp hc hf
    exact c_U1 (As := [.int x0]) (rest := rest) (o := w) (x := ⟨"OnTiptoe$Walker", "actGoes", "(I)I"⟩) (owner := "OnTiptoe$Walker") (b0 := cX9_actGoes) (m0 := 2) (r0 := (some .int)) (q := (RX6, TX6, 6)) hC hX hE.2.1 hF hH (c_X9_actGoes (l := l) (mem := mem) hk hL hE hw hf) kw1171 kw1172 kw1189 kw221 kw1175 kw1174 kw1174 kw1175 (by decide +kernel) a_X9_actGoes.2 hw.2.2.2.1 (sWk hw hc) rfl rfl hls (rmk hR (by omega) (by omega)) hW hdg kk
  have hf := ifn hc hf
  have hz2 := hc
  clear hc
  by_cases hc : wkd w = 3
  · have hf := ifp hc hf
    exact c_U1 (As := [.int x0]) (rest := rest) (o := w) (x := ⟨"OnTiptoe$Walker", "actGoes", "(I)I"⟩) (owner := "OnTiptoe$Walker") (b0 := cX9_actGoes) (m0 := 2) (r0 := (some .int)) (q := (RX5, TX5, 6)) hC hX hE.2.1 hF hH (c_X9_actGoes (l := l) (mem := mem) hk hL hE hw hf) kw1171 kw1172 kw1188 kw221 kw1175 kw1174 kw1174 kw1175 (by decide +kernel) a_X9_actGoes.2 hw.2.2.2.1 (sWk hw hc) rfl rfl hls (rmk hR (by omega) (by omega)) hW hdg kk
  have hf := ifn hc hf
  have hz3 := hc
  clear hc
  by_cases hc : wkd w = 4
  · have hf := ifp hc hf
    exact c_U1 (As := [.int x0]) (rest := rest) (o := w) (x := ⟨"OnTiptoe$Walker", "actGoes", "(I)I"⟩) (owner := "OnTiptoe$Walker") (b0 := cX9_actGoes) (m0 := 2) (r0 := (some .int)) (q := (RX7, TX7, 6)) hC hX hE.2.1 hF hH (c_X7_actGoes (l := l) (mem := mem) hk hL hE hw (by omega) hf) kw1171 kw1172 kw1190 kw213 kw1192 kw1191 kw1174 kw1175 (by decide +kernel) a_X7_actGoes.2 hw.2.2.2.1 (sWk hw hc) rfl rfl hls (rmk hR (by omega) (by omega)) hW hdg kk
  have hf := ifn hc hf
  have hz4 := hc
  clear hc
  by_cases hc : wkd w = 5
  · have hf := ifp hc hf
    exact c_U1 (As := [.int x0]) (rest := rest) (o := w) (x := ⟨"OnTiptoe$Walker", "actGoes", "(I)I"⟩) (owner := "OnTiptoe$Walker") (b0 := cX9_actGoes) (m0 := 2) (r0 := (some .int)) (q := (RX0, TX0, 6)) hC hX hE.2.1 hF hH (c_X9_actGoes (l := l) (mem := mem) hk hL hE hw hf) kw1171 kw1172 kw1173 kw221 kw1175 kw1174 kw1174 kw1175 (by decide +kernel) a_X9_actGoes.2 hw.2.2.2.1 (sWk hw hc) rfl rfl hls (rmk hR (by omega) (by omega)) hW hdg kk
  have hf := ifn hc hf
  have hz5 := hc
  clear hc
  have hc : wkd w = 6 := by omega
  exact c_U1 (As := [.int x0]) (rest := rest) (o := w) (x := ⟨"OnTiptoe$Walker", "actGoes", "(I)I"⟩) (owner := "OnTiptoe$Walker") (b0 := cX9_actGoes) (m0 := 2) (r0 := (some .int)) (q := (RX8, TX8, 8)) hC hX hE.2.1 hF hH (c_X8_actGoes (l := l) (mem := mem) hk hL hE hw (by omega) hf) kw1171 kw1172 kw1195 kw219 kw1197 kw1196 kw1174 kw1175 (by decide +kernel) a_X8_actGoes.2 hw.2.2.2.1 (sWk hw hc) rfl rfl hls (rmk hR (by omega) (by omega)) hW hdg kk
theorem v_X11_258_actTreads {p : Program} {l : Launch} {e : Env} {R : Room} {s : State} {m : MethodId} {args : Array Value} {below : List Frame} {meth : Method} {c : Code} {H : Heap} {locs : List Loc} {Q : State → Prop} {cc : ByteArray} {nL : Nat} {pc : Nat} {ls : Array Slot} {rest : List Value} {D : va_G} {cy : Nat → ClassId} {ad : Nat → Nat} {L : List Nat} {mem mem' : gMem} {E : State → Prop} {fr0 lo0 w : Nat} {x0 : Int32} {rv : Int32} (hC : gC p s m args meth c cc nL RX11 D cy) (hX : gX (gA ad L) s E) (hk : gOk ad L) (hL : ∀ o ∈ LX0, o ∈ L) (hE : gEok ad L E) (hF : gF ad L (gA ad L)) (hH : gH D cy shX ad L (gA ad L) s.heap mem H locs) (hw : wok L w) (hf : d_actTreads L mem w x0 = some (rv, mem')) (hls : ls.size = nL) (hR : R = gRm fr0 lo0) (h1 : 3 ≤ fr0) (h2 : 63 ≤ lo0) (hW : (rest.map fun v => v.category).sum ≤ 8) (hdg : decode cc pc = .ok (.invokevirtual 258, 3))
    (kk : ∀ (H1 : Heap) (locs1 : List Loc), gH D cy shX ad L (gA ad L) s.heap mem' H1 locs1 → W p l e R s m args below meth c H1 locs1 0 0 Q (F0 m (pc + 3) ls (.int rv :: rest))) : W p l e R s m args below meth c H locs 0 0 Q (F0 m pc ls (.int x0 :: .ref (ad w) :: rest)) := by
  have hk7 := hw.2.2.1
  unfold d_actTreads at hf
  by_cases hc : wkd w = 0
  · have hf := ifp hc hf
    exact c_U1 (As := [.int x0]) (rest := rest) (o := w) (x := ⟨"OnTiptoe$Walker", "actTreads", "(I)I"⟩) (owner := "OnTiptoe$Walker") (b0 := cX9_actTreads) (m0 := 2) (r0 := (some .int)) (q := (RX9, TX9, 6)) hC hX hE.2.1 hF hH (c_X9_actTreads (l := l) (mem := mem) hk hL hE hw hf) kw1125 kw1126 kw1170 kw221 kw1141 kw1127 kw1127 kw1141 (by decide +kernel) a_X9_actTreads.2 hw.2.2.2.1 (sWk hw hc) rfl rfl hls (rmk hR (by omega) (by omega)) hW hdg kk
  have hf := ifn hc hf
  have hz0 := hc
  clear hc
  by_cases hc : wkd w = 1
  · have hf := ifp hc hf
    exact c_U1 (As := [.int x0]) (rest := rest) (o := w) (x := ⟨"OnTiptoe$Walker", "actTreads", "(I)I"⟩) (owner := "OnTiptoe$Walker") (b0 := cX9_actTreads) (m0 := 2) (r0 := (some .int)) (q := (RX1, TX1, 6)) hC hX hE.2.1 hF hH (c_X9_actTreads (l := l) (mem := mem) hk hL hE hw hf) kw1125 kw1126 kw1152 kw221 kw1141 kw1127 kw1127 kw1141 (by decide +kernel) a_X9_actTreads.2 hw.2.2.2.1 (sWk hw hc) rfl rfl hls (rmk hR (by omega) (by omega)) hW hdg kk
  have hf := ifn hc hf
  have hz1 := hc
  clear hc
  by_cases hc : wkd w = 2
  · have hf := ifp hc hf
    exact c_U1 (As := [.int x0]) (rest := rest) (o := w) (x := ⟨"OnTiptoe$Walker", "actTreads", "(I)I"⟩) (owner := "OnTiptoe$Walker") (b0 := cX9_actTreads) (m0 := 2) (r0 := (some .int)) (q := (RX6, TX6, 6)) hC hX hE.2.1 hF hH (c_X6_actTreads (l := l) (mem := mem) hk hL hE hw (by omega) hf) kw1125 kw1126 kw1154 kw207 kw1130 kw1129 kw1127 kw1141 (by decide +kernel) a_X6_actTreads.2 hw.2.2.2.1 (sWk hw hc) rfl rfl hls (rmk hR (by omega) (by omega)) hW hdg kk
  have hf := ifn hc hf
  have hz2 := hc
  clear hc
  by_cases hc : wkd w = 3
  · have hf := ifp hc hf
    exact c_U1 (As := [.int x0]) (rest := rest) (o := w) (x := ⟨"OnTiptoe$Walker", "actTreads", "(I)I"⟩) (owner := "OnTiptoe$Walker") (b0 := cX9_actTreads) (m0 := 2) (r0 := (some .int)) (q := (RX5, TX5, 6)) hC hX hE.2.1 hF hH (c_X9_actTreads (l := l) (mem := mem) hk hL hE hw hf) kw1125 kw1126 kw1153 kw221 kw1141 kw1127 kw1127 kw1141 (by decide +kernel) a_X9_actTreads.2 hw.2.2.2.1 (sWk hw hc) rfl rfl hls (rmk hR (by omega) (by omega)) hW hdg kk
  have hf := ifn hc hf
  have hz3 := hc
  clear hc
  by_cases hc : wkd w = 4
  · have hf := ifp hc hf
    exact c_U1 (As := [.int x0]) (rest := rest) (o := w) (x := ⟨"OnTiptoe$Walker", "actTreads", "(I)I"⟩) (owner := "OnTiptoe$Walker") (b0 := cX9_actTreads) (m0 := 2) (r0 := (some .int)) (q := (RX7, TX7, 6)) hC hX hE.2.1 hF hH (c_X7_actTreads (l := l) (mem := mem) hk hL hE hw (by omega) hf) kw1125 kw1126 kw1155 kw213 kw1157 kw1156 kw1127 kw1141 (by decide +kernel) a_X7_actTreads.2 hw.2.2.2.1 (sWk hw hc) rfl rfl hls (rmk hR (by omega) (by omega)) hW hdg kk
  have hf := ifn hc hf
  have hz4 := hc
  clear hc
  by_cases hc : wkd w = 5
  · have hf := ifp hc hf
    exact c_U1 (As := [.int x0]) (rest := rest) (o := w) (x := ⟨"OnTiptoe$Walker", "actTreads", "(I)I"⟩) (owner := "OnTiptoe$Walker") (b0 := cX9_actTreads) (m0 := 2) (r0 := (some .int)) (q := (RX0, TX0, 6)) hC hX hE.2.1 hF hH (c_X6_actTreads (l := l) (mem := mem) hk hL hE hw (by omega) hf) kw1125 kw1126 kw1128 kw207 kw1130 kw1129 kw1127 kw1141 (by decide +kernel) a_X6_actTreads.2 hw.2.2.2.1 (sWk hw hc) rfl rfl hls (rmk hR (by omega) (by omega)) hW hdg kk
  have hf := ifn hc hf
  have hz5 := hc
  clear hc
  have hc : wkd w = 6 := by omega
  exact c_U1 (As := [.int x0]) (rest := rest) (o := w) (x := ⟨"OnTiptoe$Walker", "actTreads", "(I)I"⟩) (owner := "OnTiptoe$Walker") (b0 := cX9_actTreads) (m0 := 2) (r0 := (some .int)) (q := (RX8, TX8, 8)) hC hX hE.2.1 hF hH (c_X8_actTreads (l := l) (mem := mem) hk hL hE hw (by omega) hf) kw1125 kw1126 kw1161 kw219 kw1163 kw1162 kw1127 kw1141 (by decide +kernel) a_X8_actTreads.2 hw.2.2.2.1 (sWk hw hc) rfl rfl hls (rmk hR (by omega) (by omega)) hW hdg kk
def f_X11_act (L : List Nat) (mem : gMem) (p0 : Int32) (p1 : Int32) (p2 : Int32) : Option (Int32 × gMem) := bd (f_X11_find L mem p0) fun (o1 : Option Nat) => jn ((lt1 (gsR mem 0 8 none) fun (m12 : gMem) => some ((0 : Int32), m12)) : Option (Int32 × gMem)) fun j2 => oc o1 (j2) fun w3 => if wok L w3 then if p1 < 0 then (j2) else if p1 ≤ (2 : Int32) then (lt1 (gsR mem 0 8 (some w3)) fun (m4 : gMem) => lt1 (gsI m4 w3 5 (0 : Int32)) fun (m5 : gMem) => if p1 = 0 then (bd2 (d_actTreads L m5 w3 p2) fun (x11 : Int32) (m10 : gMem) => some (x11, m10)) else if p1 = (1 : Int32) then (bd2 (d_actGoes L m5 w3 p2) fun (x9 : Int32) (m8 : gMem) => some (x9, m8)) else bd2 (d_actTells L m5 w3 p2) fun (x7 : Int32) (m6 : gMem) => some (x7, m6)) else j2 else none
set_option maxRecDepth 100000 in
set_option maxHeartbeats 4000000 in
theorem c_X11_act {l : Launch} {E : State → Prop} {D : va_G} {cy : Nat → ClassId} {ad : Nat → Nat} {L : List Nat} {mem : gMem} {p0 : Int32} {p1 : Int32} {p2 : Int32} {rv : Int32} {memz : gMem} (hk : gOk ad L) (hL : ∀ o ∈ LX0, o ∈ L) (hE : gEok ad L E)  (h : f_X11_act L mem p0 p1 p2 = some (rv, memz)) : gMet l yX11_act cX11_act 5 (some .int) 8 168 E D cy shX ad L [.ref (ad 0), .int p0, .int p1, .int p2] mem memz (some (.int rv)) := by
  refine g_go (own := RX11) (by decide +kernel) rfl hE (Nat.le_of_ble_eq_true rfl) ?_
  intro p e s m args below meth c R Q hargs hR hQ hEs hC hr hX H locs ls hH hl
  have hF := gF_of hk
  have hl : lv_has ls 5 [(0, .ref (ad 0)), (1, .int p0), (2, .int p1), (3, .int p2)] := hl
  refine lv_aload_n hC.x hC.b dX11_act_0 rfl (lv_at hl 0 rfl) ?_
  refine lv_iload_n hC.x hC.b dX11_act_1 rfl (lv_at hl 1 rfl) ?_
  obtain ⟨o1, hf1, h⟩ := bd_e h
  refine c_V1 (As := [.int p0]) (rest := []) (o := 0) (q := (RX11, TX11, 13)) hC hX hE.2.1 hF hH (c_X11_find (l := l) hk hL hE hf1) kw267 kw268 kw269 kw2 kw270 a_X11_find.1 a_X11_find.2 (hL _ mX0) sX0 rfl rfl hl.1 (rmk hR (by decide) (by decide)) (Nat.le_of_ble_eq_true rfl) dX11_act_2 (fun H locs hH => ?_)
  refine o_ast (lv' := [(4, va_rf (Option.map ad o1)), (0, .ref (ad 0)), (1, .int p0), (2, .int p1), (3, .int p2)]) hC dX11_act_5 hl (by decide) rfl (fun ls hl => ?_)
  refine o_ald hC dX11_act_7 (lv_at hl 0 rfl) ?_
  obtain ⟨j2, ej2, h⟩ := jn_e h
  have hj2 : ∀  (H : Heap) (locs : List Loc) (ls : Array Slot), j2 = some (rv, memz) → gH D cy shX ad L (gA ad L) s.heap mem H locs → lv_has ls 5 [(0, .ref (ad 0))] → W p l e R s m args below meth c H locs 0 0 Q (F0 m 21 ls []) := by
    intro H locs ls h hH hl
    have h := ap0 ej2 h
    refine lv_aload_n hC.x hC.b dX11_act_21 rfl (lv_at hl 0 rfl) ?_
    refine lv_null hC.x hC.b dX11_act_22 ?_
    refine r_putr (x := none) hC hF hH pl_X11_251_11 (hL _ mX0) sX0 rfl (by rfl) rfl h dX11_act_23 (fun m12 H locs h hH => ?_)
    refine lv_iconst (v := 0) hC.x hC.b dX11_act_26 rfl ?_
    rw [hQ]
    exact e_i hC hr hH h dX11_act_27
  clear ej2
  refine b_null (tgt := 21) hC dX11_act_9 (by decide) h (fun ho h => ?_) (fun w3 hyw3 h => ?_)
  · subst ho
    have hl : lv_has ls 5 [(4, .null), (0, .ref (ad 0)), (1, .int p0), (2, .int p1), (3, .int p2)] := hl
    exact hj2  H locs ls h hH (lv_sub hl [1] rfl)
  · subst hyw3
    have hl : lv_has ls 5 [(4, .ref (ad w3)), (0, .ref (ad 0)), (1, .int p0), (2, .int p1), (3, .int p2)] := hl
    obtain ⟨hww3, h⟩ := chk h
    refine lv_iload_n hC.x hC.b dX11_act_12 rfl (lv_at hl 3 rfl) ?_
    refine b_if_lt (tgt := 21) hC dX11_act_13 (by decide) h (fun h => ?_) (fun h => ?_)
    · exact hj2  H locs ls h hH (lv_sub hl [1] rfl)
    · refine lv_iload_n hC.x hC.b dX11_act_16 rfl (lv_at hl 3 rfl) ?_
      refine lv_iconst (v := 2) hC.x hC.b dX11_act_17 rfl ?_
      refine b_ic_le (tgt := 28) hC dX11_act_18 (by decide) h (fun h => ?_) (fun h => ?_)
      · refine lv_aload_n hC.x hC.b dX11_act_28 rfl (lv_at hl 1 rfl) ?_
        refine lv_aload hC.x hC.b dX11_act_29 (lv_at hl 0 rfl) ?_
        refine r_putr (x := (some w3)) hC hF hH pl_X11_251_11 (hL _ mX0) sX0 rfl (by rfl) rfl h dX11_act_31 (fun m4 H locs h hH => ?_)
        refine lv_aload hC.x hC.b dX11_act_34 (lv_at hl 0 rfl) ?_
        refine lv_iconst (v := 0) hC.x hC.b dX11_act_36 rfl ?_
        refine r_puti hC hF hH (pw_X11_255 _ hww3.2.2.1) hww3.2.2.2.1 (sW0 hww3) rfl h dX11_act_37 (fun m5 H locs h hH => ?_)
        refine lv_iload_n hC.x hC.b dX11_act_40 rfl (lv_at hl 3 rfl) ?_
        refine b_if_ne (tgt := 51) hC dX11_act_41 (by decide) h (fun h => ?_) (fun h => ?_)
        · refine lv_iload_n hC.x hC.b dX11_act_51 rfl (lv_at hl 3 rfl) ?_
          refine lv_iconst (v := 1) hC.x hC.b dX11_act_52 rfl ?_
          refine b_ic_ne (tgt := 65) hC dX11_act_53 (by decide) h (fun h => ?_) (fun h => ?_)
          · refine lv_aload hC.x hC.b dX11_act_65 (lv_at hl 0 rfl) ?_
            refine lv_iload_n hC.x hC.b dX11_act_67 rfl (lv_at hl 4 rfl) ?_
            obtain ⟨x7, m6, hf7, h⟩ := bd2_e h
            refine v_X11_264_actTells hC hX hk hL hE hF hH hww3 hf7 hl.1 hR (by decide) (by decide) (Nat.le_of_ble_eq_true rfl) dX11_act_68 (fun H locs hH => ?_)
            rw [hQ]
            exact e_i hC hr hH h dX11_act_71
          · refine lv_aload hC.x hC.b dX11_act_56 (lv_at hl 0 rfl) ?_
            refine lv_iload_n hC.x hC.b dX11_act_58 rfl (lv_at hl 4 rfl) ?_
            obtain ⟨x9, m8, hf9, h⟩ := bd2_e h
            refine v_X11_261_actGoes hC hX hk hL hE hF hH hww3 hf9 hl.1 hR (by decide) (by decide) (Nat.le_of_ble_eq_true rfl) dX11_act_59 (fun H locs hH => ?_)
            refine lv_goto (tgt := 71) hC.x hC.b dX11_act_62 (by decide) ?_
            rw [hQ]
            exact e_i hC hr hH h dX11_act_71
        · refine lv_aload hC.x hC.b dX11_act_44 (lv_at hl 0 rfl) ?_
          refine lv_iload_n hC.x hC.b dX11_act_46 rfl (lv_at hl 4 rfl) ?_
          obtain ⟨x11, m10, hf11, h⟩ := bd2_e h
          refine v_X11_258_actTreads hC hX hk hL hE hF hH hww3 hf11 hl.1 hR (by decide) (by decide) (Nat.le_of_ble_eq_true rfl) dX11_act_47 (fun H locs hH => ?_)
          rw [hQ]
          exact e_i hC hr hH h dX11_act_50
      · exact hj2  H locs ls h hH (lv_sub hl [1] rfl)

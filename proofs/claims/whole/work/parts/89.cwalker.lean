/-! the class's call walker -/
theorem pw_X11_82_2 : gPl RX11 82 2 3 "I" := ⟨RX2, TX2, 17, tyX2, "OnTiptoe$House", rfl, inW2, tyX2_ok, nmX2, by decide, kw198, Or.inl rfl, rfl, rfl⟩
theorem a_X11_newWalker : noMH yX11_newWalker.cls ∧ arity yX11_newWalker.desc 4 := by decide +kernel
def f_Wf (mem : gMem) (p0 p1 p2 : Int32) : Option (Int32 × gMem) := if p0 < 0 then (some ((-1 : Int32), mem)) else if (7 : Int32) ≤ p0 then (some ((-1 : Int32), mem)) else bd (f_X11_isBoard p2) fun (x1 : Int32) => if x1 = 0 then (some ((-1 : Int32), mem)) else if p1 < 0 then (some ((-2 : Int32), mem)) else if p1 ≤ (9 : Int32) then (if gI mem 10 3 < 0 then (some ((-4 : Int32), mem)) else if gI mem 10 3 < (4 : Int32) then none else some ((-4 : Int32), mem)) else some ((-2 : Int32), mem)
theorem c_Wf {l : Launch} {E : State → Prop} {D : va_G} {cy : Nat → ClassId} {ad : Nat → Nat} {L : List Nat} {mem : gMem} {p0 p1 p2 : Int32} {rv : Int32} {memz : gMem} (hk : gOk ad L) (hL : ∀ o ∈ LX0, o ∈ L) (hE : gEok ad L E) (h : f_Wf mem p0 p1 p2 = some (rv, memz)) : gMet l yX11_walker cX11_walker 5 (some .int) 1 20 E D cy shX ad L [.ref (ad 0), .int p0, .int p1, .int p2] mem memz (some (.int rv)) := by
  unfold f_Wf at h
  refine g_go (own := RX11) (by decide +kernel) rfl hE (Nat.le_of_ble_eq_true rfl) ?_
  intro p e s m args below meth c R Q hargs hR hQ hEs hC hr hX H locs ls hH hl
  have hF := gF_of hk
  have hl : lv_has ls 5 [(0, .ref (ad 0)), (1, .int p0), (2, .int p1), (3, .int p2)] := hl
  refine lv_iload_n hC.x hC.b dX11_walker_0 rfl (lv_at hl 1 rfl) ?_
  refine b_if_lt (tgt := 17) hC dX11_walker_1 (by decide) h (fun h => ?_) (fun h => ?_)
  · refine lv_iconst (v := -1) hC.x hC.b dX11_walker_17 rfl ?_
    rw [hQ]
    exact e_i hC hr hH h dX11_walker_18
  refine lv_iload_n hC.x hC.b dX11_walker_4 rfl (lv_at hl 1 rfl) ?_
  refine lv_bipush (v := 7) hC.x hC.b dX11_walker_5 rfl ?_
  refine b_ic_ge (tgt := 17) hC dX11_walker_7 (by decide) h (fun h => ?_) (fun h => ?_)
  · refine lv_iconst (v := -1) hC.x hC.b dX11_walker_17 rfl ?_
    rw [hQ]
    exact e_i hC hr hH h dX11_walker_18
  refine lv_iload_n hC.x hC.b dX11_walker_10 rfl (lv_at hl 3 rfl) ?_
  obtain ⟨x1, hf1, h⟩ := bd_e h
  refine c_S1 (As := [.int p2]) (rest := []) hC hX hE.2.1 hF hH (c_X11_isBoard (l := l) hk hL hE hf1) kw156 kw157 kw2 kw158 a_X11_isBoard.1 a_X11_isBoard.2 rfl hl.1 (rmk hR (by decide) (by decide)) (Nat.le_of_ble_eq_true rfl) dX11_walker_11 (fun H locs hH => ?_)
  refine b_if_ne (tgt := 19) hC dX11_walker_14 (by decide) h (fun h => ?_) (fun h => ?_)
  rotate_left
  · refine lv_iconst (v := -1) hC.x hC.b dX11_walker_17 rfl ?_
    rw [hQ]
    exact e_i hC hr hH h dX11_walker_18
  refine lv_iload_n hC.x hC.b dX11_walker_19 rfl (lv_at hl 2 rfl) ?_
  refine b_if_lt (tgt := 29) hC dX11_walker_20 (by decide) h (fun h => ?_) (fun h => ?_)
  · refine lv_bipush (v := -2) hC.x hC.b dX11_walker_29 rfl ?_
    rw [hQ]
    exact e_i hC hr hH h dX11_walker_31
  refine lv_iload_n hC.x hC.b dX11_walker_23 rfl (lv_at hl 2 rfl) ?_
  refine lv_bipush (v := 9) hC.x hC.b dX11_walker_24 rfl ?_
  refine b_ic_le (tgt := 32) hC dX11_walker_26 (by decide) h (fun h => ?_) (fun h => ?_)
  rotate_left
  · refine lv_bipush (v := -2) hC.x hC.b dX11_walker_29 rfl ?_
    rw [hQ]
    exact e_i hC hr hH h dX11_walker_31
  refine lv_aload_n hC.x hC.b dX11_walker_32 rfl (lv_at hl 0 rfl) ?_
  refine r_getc (z := 10) hC hH fl_X11_12_11 (hL _ mX0) sX0 rfl dX11_walker_33 ?_
  refine r_geti hC hH fl_X11_82_2 (hL _ mX10) sX10 rfl dX11_walker_36 ?_
  refine lv_istore (lv' := [(4, .int (gI mem 10 3)), (0, .ref (ad 0)), (1, .int p0), (2, .int p1), (3, .int p2)]) hC.x hC.b dX11_walker_39 hl (by decide) rfl (fun ls hl => ?_)
  refine lv_iload hC.x hC.b dX11_walker_41 (lv_at hl 0 rfl) ?_
  refine b_if_lt (tgt := 52) hC dX11_walker_43 (by decide) h (fun h => ?_) (fun h => ?_)
  · refine lv_bipush (v := -4) hC.x hC.b dX11_walker_52 rfl ?_
    rw [hQ]
    exact e_i hC hr hH h dX11_walker_54
  refine lv_iload hC.x hC.b dX11_walker_46 (lv_at hl 0 rfl) ?_
  refine lv_iconst (v := 4) hC.x hC.b dX11_walker_48 rfl ?_
  refine b_ic_lt (tgt := 55) hC dX11_walker_49 (by decide) h (fun h => ?_) (fun h => ?_)
  · cases h
  · refine lv_bipush (v := -4) hC.x hC.b dX11_walker_52 rfl ?_
    rw [hQ]
    exact e_i hC hr hH h dX11_walker_54
/-- the shapes while a WALKER is made -/
def shW (w o : Nat) : gShp := if o = w then opS0 (shX o) else shX o
theorem shW_n {w o : Nat} (h : o ≠ w) : shW w o = shX o := if_neg h
theorem gG_sh {D : va_G} {cy : Nat → ClassId} {sh sh' : Nat → gShp} {ad : Nat → Nat} {L : List Nat} {A : Nat → Prop} {H0 H : Heap} {mem : gMem} {locs : List Loc} (h : ∀ o ∈ L, gCell cy ad mem o (sh' o) = gCell cy ad mem o (sh o)) (hCl : gCl sh' L mem) (hG : gG D cy sh ad L A H0 mem H locs) : gG D cy sh' ad L A H0 mem H locs := by
  obtain ⟨h1, h2, h3, -⟩ := hG
  refine ⟨h1, ⟨?_, h2.2⟩, h3, hCl⟩
  have e : gW cy sh' ad L mem = gW cy sh ad L mem := List.map_congr_left (fun o ho => by rw [h o ho])
  rw [e]
  exact h2.1
/-- an object whose references are settled -/
theorem cell_op {cy : Nat → ClassId} {ad : Nat → Nat} {mem : gMem} {o : Nat} {sp : gShp} (h : sp.1 = 0 → ∀ k c : Nat, sp.2.2[k]? = some (c + 2) → gR mem o k = some c) : gCell cy ad mem o (opS0 sp) = gCell cy ad mem o sp := by
  obtain ⟨t, n, fs⟩ := sp
  match t with
  | 0 =>
    have h := h rfl
    show (Sum.inr (n, gFs ad mem o (fs.map opF)) : va_E) = Sum.inr (n, gFs ad mem o fs)
    congr 2
    apply List.ext_getElem?
    intro k
    by_cases hk : k < fs.length
    · obtain ⟨c, hc⟩ : ∃ c, fs[k]? = some c := ⟨_, List.getElem?_eq_getElem hk⟩
      rw [gFs_at hc, gFs_at (c := opF c) (by rw [List.getElem?_map, hc]; rfl)]
      match c with
      | 0 => rfl
      | 1 => rfl
      | c + 2 =>
        show some (va_rf ((gR mem o k).map ad)) = some (Value.ref (ad c))
        rw [h k c hc]
        rfl
    · rw [List.getElem?_eq_none (by rw [gFs_len, List.length_map]; omega), List.getElem?_eq_none (by rw [gFs_len]; omega)]
  | 1 => rfl
  | 2 => rfl
  | 3 => rfl
  | 4 => rfl
  | t + 5 => rfl

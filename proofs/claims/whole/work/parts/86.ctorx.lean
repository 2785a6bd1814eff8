/-! the class made -/
def shK (o : Nat) : gShp := opS0 (shX o)
def gM0 : gMem := (fun _ _ => 0, (fun _ _ => 0, fun _ _ => none))
theorem tap_new {L : List Nat} (h : ∀ o ∈ [5, 50, 51, 52, 53, 54, 55], o ∉ L) : ∀ o, o = 5 ∨ (50 ≤ o ∧ o ≤ 55) → o ∉ L ∧ (shK o).2.2 = [] := fun o ho => by
  have : o = 5 ∨ o = 50 ∨ o = 51 ∨ o = 52 ∨ o = 53 ∨ o = 54 ∨ o = 55 := by omega
  rcases this with rfl | rfl | rfl | rfl | rfl | rfl | rfl <;> exact ⟨h _ (by decide), rfl⟩
theorem tap_sh : ∀ o, 50 ≤ o → o ≤ 55 → shK o = (4, 60, []) := fun o h1 h2 => by
  have : o = 50 ∨ o = 51 ∨ o = 52 ∨ o = 53 ∨ o = 54 ∨ o = 55 := by omega
  rcases this with rfl | rfl | rfl | rfl | rfl | rfl <;> rfl
theorem a_X11_init : noMH yX11_init.cls ∧ arity yX11_init.desc 0 := by decide +kernel
theorem pu_X11_12_11 : gPu RX11 12 11 0 "LOnTiptoe$House;" := ⟨RX11, TX11, 13, tyX11, "OnTiptoe", rfl, inW11, tyX11_ok, nmX11, by decide, kw16, Or.inl rfl, Or.inr ⟨rfl, rfl⟩, rfl⟩
theorem pu_X11_18_11 : gPu RX11 18 11 1 "LOnTiptoe$House;" := ⟨RX11, TX11, 13, tyX11, "OnTiptoe", rfl, inW11, tyX11_ok, nmX11, by decide, kw17, Or.inl rfl, Or.inr ⟨rfl, rfl⟩, rfl⟩
theorem pu_X11_23_11 : gPu RX11 23 11 3 "[LOnTiptoe$Walker;" := ⟨RX11, TX11, 13, tyX11, "OnTiptoe", rfl, inW11, tyX11_ok, nmX11, by decide, kw19, Or.inl rfl, Or.inr ⟨rfl, rfl⟩, rfl⟩
theorem pu_X11_29_11 : gPu RX11 29 11 4 "[LOnTiptoe$Night;" := ⟨RX11, TX11, 13, tyX11, "OnTiptoe", rfl, inW11, tyX11_ok, nmX11, by decide, kw21, Or.inl rfl, Or.inr ⟨rfl, rfl⟩, rfl⟩
theorem pu_X11_36_11 : gPu RX11 36 11 6 "LOnTiptoe$Reader;" := ⟨RX11, TX11, 13, tyX11, "OnTiptoe", rfl, inW11, tyX11_ok, nmX11, by decide, kw25, Or.inl rfl, Or.inr ⟨rfl, rfl⟩, rfl⟩
theorem pu_X11_43_11 : gPu RX11 43 11 7 "LOnTiptoe$Ways;" := ⟨RX11, TX11, 13, tyX11, "OnTiptoe", rfl, inW11, tyX11_ok, nmX11, by decide, kw29, Or.inl rfl, Or.inr ⟨rfl, rfl⟩, rfl⟩
theorem pu_X11_47_11 : gPu RX11 47 11 9 "[I" := ⟨RX11, TX11, 13, tyX11, "OnTiptoe", rfl, inW11, tyX11_ok, nmX11, by decide, kw31, Or.inl rfl, Or.inr ⟨rfl, rfl⟩, rfl⟩
theorem pu_X11_51_11 : gPu RX11 51 11 10 "[I" := ⟨RX11, TX11, 13, tyX11, "OnTiptoe", rfl, inW11, tyX11_ok, nmX11, by decide, kw32, Or.inl rfl, Or.inr ⟨rfl, rfl⟩, rfl⟩
theorem pu_X11_56_11 : gPu RX11 56 11 11 "[[J" := ⟨RX11, TX11, 13, tyX11, "OnTiptoe", rfl, inW11, tyX11_ok, nmX11, by decide, kw35, Or.inl rfl, Or.inr ⟨rfl, rfl⟩, rfl⟩
theorem pu_X11_59_11 : gPu RX11 59 11 12 "[J" := ⟨RX11, TX11, 13, tyX11, "OnTiptoe", rfl, inW11, tyX11_ok, nmX11, by decide, kw36, Or.inl rfl, Or.inr ⟨rfl, rfl⟩, rfl⟩
theorem fu_X11_29_11 : gFl RX11 29 11 4 := ⟨RX11, TX11, 13, "OnTiptoe", rfl, inW11, by decide, kw21, Or.inl rfl⟩
theorem fu_X11_47_11 : gFl RX11 47 11 9 := ⟨RX11, TX11, 13, "OnTiptoe", rfl, inW11, by decide, kw31, Or.inl rfl⟩
def i_X11 (mem : gMem) : gMem := (gsI (gsI (gsI (gsI (gsI (gsI (gsR (i_X3 85 (gsR (i_X3 80 (gsR (i_X3 75 (gsR (i_X3 70 (gsR (i_X3 65 (gsR (i_X3 60 (gsR (gsR (mTap (gsR (gsR (gsR (i_X10 (gsR (i_X4 (gsR (gsR (gsR (i_X2 20 (gsR (i_X2 10 mem) 0 0 (some 10))) 0 1 (some 20)) 0 3 (some 1)) 0 4 (some 2))) 0 6 (some 30))) 0 7 (some 32)) 0 9 (some 3)) 0 10 (some 4))) 0 11 (some 5)) 0 12 (some 6))) 2 (ix (0 : Int32)) (some 60))) 2 (ix (1 : Int32)) (some 65))) 2 (ix (2 : Int32)) (some 70))) 2 (ix (3 : Int32)) (some 75))) 2 (ix (4 : Int32)) (some 80))) 2 (ix (5 : Int32)) (some 85)) 3 (ix (0 : Int32)) (-1 : Int32)) 3 (ix (1 : Int32)) (-1 : Int32)) 3 (ix (2 : Int32)) (-1 : Int32)) 3 (ix (3 : Int32)) (-1 : Int32)) 3 (ix (4 : Int32)) (-1 : Int32)) 3 (ix (5 : Int32)) (-1 : Int32))
theorem z_X11   (hz : gZ [0] gM0) (hc : gCl shK [0] gM0) : gZ ([89, 88, 87, 86, 85, 84, 83, 82, 81, 80, 79, 78, 77, 76, 75, 74, 73, 72, 71, 70, 69, 68, 67, 66, 65, 64, 63, 62, 61, 60, 6, 5, 50, 51, 52, 53, 54, 55, 4, 3, 35, 34, 33, 32, 31, 30, 2, 1, 27, 26, 25, 24, 23, 22, 21, 20, 17, 16, 15, 14, 13, 12, 11, 10, 0]) (i_X11 gM0) ∧ gCl shK ([89, 88, 87, 86, 85, 84, 83, 82, 81, 80, 79, 78, 77, 76, 75, 74, 73, 72, 71, 70, 69, 68, 67, 66, 65, 64, 63, 62, 61, 60, 6, 5, 50, 51, 52, 53, 54, 55, 4, 3, 35, 34, 33, 32, 31, 30, 2, 1, 27, 26, 25, 24, 23, 22, 21, 20, 17, 16, 15, 14, 13, 12, 11, 10, 0]) (i_X11 gM0) := by
  have hc := gCl_up (j := 10) hc hz (by decide) (by decide)
  have hz := gZ_up (j := 10) hz
  have hzc := z_X2 (sh := shK) (h := 10) rfl rfl rfl rfl rfl rfl rfl rfl (by decide) (by decide) (by decide) (by decide) (by decide) (by decide) (by decide) (by decide) hz hc
  have hz := hzc.1
  have hc := hzc.2
  have hz := gZ_sR (o := 0) (k := 0) (v := some 10) hz (by decide)
  have hc := gCl_sR (o := 0) (k := 0) (v := some 10) hc (fun b hb => by cases hb; exact (by decide))
  have hc := gCl_up (j := 20) hc hz (by decide) (by decide)
  have hz := gZ_up (j := 20) hz
  have hzc := z_X2 (sh := shK) (h := 20) rfl rfl rfl rfl rfl rfl rfl rfl (by decide) (by decide) (by decide) (by decide) (by decide) (by decide) (by decide) (by decide) hz hc
  have hz := hzc.1
  have hc := hzc.2
  have hz := gZ_sR (o := 0) (k := 1) (v := some 20) hz (by decide)
  have hc := gCl_sR (o := 0) (k := 1) (v := some 20) hc (fun b hb => by cases hb; exact (by decide))
  have hc := gCl_up (j := 1) hc hz (by decide) (by decide)
  have hz := gZ_up (j := 1) hz
  have hz := gZ_sR (o := 0) (k := 3) (v := some 1) hz (by decide)
  have hc := gCl_sR (o := 0) (k := 3) (v := some 1) hc (fun b hb => by cases hb; exact (by decide))
  have hc := gCl_up (j := 2) hc hz (by decide) (by decide)
  have hz := gZ_up (j := 2) hz
  have hz := gZ_sR (o := 0) (k := 4) (v := some 2) hz (by decide)
  have hc := gCl_sR (o := 0) (k := 4) (v := some 2) hc (fun b hb => by cases hb; exact (by decide))
  have hc := gCl_up (j := 30) hc hz (by decide) (by decide)
  have hz := gZ_up (j := 30) hz
  have hzc := z_X4 (sh := shK) rfl rfl (by decide) (by decide) hz hc
  have hz := hzc.1
  have hc := hzc.2
  have hz := gZ_sR (o := 0) (k := 6) (v := some 30) hz (by decide)
  have hc := gCl_sR (o := 0) (k := 6) (v := some 30) hc (fun b hb => by cases hb; exact (by decide))
  have hc := gCl_up (j := 32) hc hz (by decide) (by decide)
  have hz := gZ_up (j := 32) hz
  have hzc := z_X10 (sh := shK) rfl rfl rfl rfl (by decide) (by decide) (by decide) (by decide) hz hc
  have hz := hzc.1
  have hc := hzc.2
  have hz := gZ_sR (o := 0) (k := 7) (v := some 32) hz (by decide)
  have hc := gCl_sR (o := 0) (k := 7) (v := some 32) hc (fun b hb => by cases hb; exact (by decide))
  have hc := gCl_up (j := 3) hc hz (by decide) (by decide)
  have hz := gZ_up (j := 3) hz
  have hz := gZ_sR (o := 0) (k := 9) (v := some 3) hz (by decide)
  have hc := gCl_sR (o := 0) (k := 9) (v := some 3) hc (fun b hb => by cases hb; exact (by decide))
  have hc := gCl_up (j := 4) hc hz (by decide) (by decide)
  have hz := gZ_up (j := 4) hz
  have hz := gZ_sR (o := 0) (k := 10) (v := some 4) hz (by decide)
  have hc := gCl_sR (o := 0) (k := 10) (v := some 4) hc (fun b hb => by cases hb; exact (by decide))
  have hc := mTap_Cl hc hz (tap_new (by decide))
  have hz := mTap_Z hz
  have hz := gZ_sR (o := 0) (k := 11) (v := some 5) hz (by decide)
  have hc := gCl_sR (o := 0) (k := 11) (v := some 5) hc (fun b hb => by cases hb; exact (by decide))
  have hc := gCl_up (j := 6) hc hz (by decide) (by decide)
  have hz := gZ_up (j := 6) hz
  have hz := gZ_sR (o := 0) (k := 12) (v := some 6) hz (by decide)
  have hc := gCl_sR (o := 0) (k := 12) (v := some 6) hc (fun b hb => by cases hb; exact (by decide))
  have hc := gCl_up (j := 60) hc hz (by decide) (by decide)
  have hz := gZ_up (j := 60) hz
  have hzc := z_X3 (sh := shK) (g := 60) rfl rfl rfl rfl rfl (by decide) (by decide) (by decide) (by decide) (by decide) hz hc
  have hz := hzc.1
  have hc := hzc.2
  have hz := gZ_sR (o := 2) (k := ix (0 : Int32)) (v := some 60) hz (by decide)
  have hc := gCl_sR (o := 2) (k := ix (0 : Int32)) (v := some 60) hc (fun b hb => by cases hb; exact (by decide))
  have hc := gCl_up (j := 65) hc hz (by decide) (by decide)
  have hz := gZ_up (j := 65) hz
  have hzc := z_X3 (sh := shK) (g := 65) rfl rfl rfl rfl rfl (by decide) (by decide) (by decide) (by decide) (by decide) hz hc
  have hz := hzc.1
  have hc := hzc.2
  have hz := gZ_sR (o := 2) (k := ix (1 : Int32)) (v := some 65) hz (by decide)
  have hc := gCl_sR (o := 2) (k := ix (1 : Int32)) (v := some 65) hc (fun b hb => by cases hb; exact (by decide))
  have hc := gCl_up (j := 70) hc hz (by decide) (by decide)
  have hz := gZ_up (j := 70) hz
  have hzc := z_X3 (sh := shK) (g := 70) rfl rfl rfl rfl rfl (by decide) (by decide) (by decide) (by decide) (by decide) hz hc
  have hz := hzc.1
  have hc := hzc.2
  have hz := gZ_sR (o := 2) (k := ix (2 : Int32)) (v := some 70) hz (by decide)
  have hc := gCl_sR (o := 2) (k := ix (2 : Int32)) (v := some 70) hc (fun b hb => by cases hb; exact (by decide))
  have hc := gCl_up (j := 75) hc hz (by decide) (by decide)
  have hz := gZ_up (j := 75) hz
  have hzc := z_X3 (sh := shK) (g := 75) rfl rfl rfl rfl rfl (by decide) (by decide) (by decide) (by decide) (by decide) hz hc
  have hz := hzc.1
  have hc := hzc.2
  have hz := gZ_sR (o := 2) (k := ix (3 : Int32)) (v := some 75) hz (by decide)
  have hc := gCl_sR (o := 2) (k := ix (3 : Int32)) (v := some 75) hc (fun b hb => by cases hb; exact (by decide))
  have hc := gCl_up (j := 80) hc hz (by decide) (by decide)
  have hz := gZ_up (j := 80) hz
  have hzc := z_X3 (sh := shK) (g := 80) rfl rfl rfl rfl rfl (by decide) (by decide) (by decide) (by decide) (by decide) hz hc
  have hz := hzc.1
  have hc := hzc.2
  have hz := gZ_sR (o := 2) (k := ix (4 : Int32)) (v := some 80) hz (by decide)
  have hc := gCl_sR (o := 2) (k := ix (4 : Int32)) (v := some 80) hc (fun b hb => by cases hb; exact (by decide))
  have hc := gCl_up (j := 85) hc hz (by decide) (by decide)
  have hz := gZ_up (j := 85) hz
  have hzc := z_X3 (sh := shK) (g := 85) rfl rfl rfl rfl rfl (by decide) (by decide) (by decide) (by decide) (by decide) hz hc
  have hz := hzc.1
  have hc := hzc.2
  have hz := gZ_sR (o := 2) (k := ix (5 : Int32)) (v := some 85) hz (by decide)
  have hc := gCl_sR (o := 2) (k := ix (5 : Int32)) (v := some 85) hc (fun b hb => by cases hb; exact (by decide))
  have hz := gZ_sI (o := 3) (k := ix (0 : Int32)) (v := (-1 : Int32)) hz (by decide)
  have hc := gCl_sI (o := 3) (k := ix (0 : Int32)) (v := (-1 : Int32)) hc
  have hz := gZ_sI (o := 3) (k := ix (1 : Int32)) (v := (-1 : Int32)) hz (by decide)
  have hc := gCl_sI (o := 3) (k := ix (1 : Int32)) (v := (-1 : Int32)) hc
  have hz := gZ_sI (o := 3) (k := ix (2 : Int32)) (v := (-1 : Int32)) hz (by decide)
  have hc := gCl_sI (o := 3) (k := ix (2 : Int32)) (v := (-1 : Int32)) hc
  have hz := gZ_sI (o := 3) (k := ix (3 : Int32)) (v := (-1 : Int32)) hz (by decide)
  have hc := gCl_sI (o := 3) (k := ix (3 : Int32)) (v := (-1 : Int32)) hc
  have hz := gZ_sI (o := 3) (k := ix (4 : Int32)) (v := (-1 : Int32)) hz (by decide)
  have hc := gCl_sI (o := 3) (k := ix (4 : Int32)) (v := (-1 : Int32)) hc
  have hz := gZ_sI (o := 3) (k := ix (5 : Int32)) (v := (-1 : Int32)) hz (by decide)
  have hc := gCl_sI (o := 3) (k := ix (5 : Int32)) (v := (-1 : Int32)) hc
  exact ⟨hz, hc⟩
theorem n_X11 {l : Launch} {sz0 : Nat} {adK adV : Nat → Nat} {D : va_G} {cy : Nat → ClassId} {ad : Nat → Nat}   (hk : gOk ad [0]) (hz : gZ [0] gM0) (hc : gCl shK [0] gM0) (h0L : ∀ o ∈ [0], sz0 ≤ ad o) : gNew l yX11_init cX11_init 2 none 2 33 64 2060 (EZ sz0 adK adV) D cy shK shK ad [0] ([89, 88, 87, 86, 85, 84, 83, 82, 81, 80, 79, 78, 77, 76, 75, 74, 73, 72, 71, 70, 69, 68, 67, 66, 65, 64, 63, 62, 61, 60, 6, 5, 50, 51, 52, 53, 54, 55, 4, 3, 35, 34, 33, 32, 31, 30, 2, 1, 27, 26, 25, 24, 23, 22, 21, 20, 17, 16, 15, 14, 13, 12, 11, 10, 0]) [.ref (ad 0)] gM0 (i_X11 gM0) (fun _ => none) := by
  refine n_start (own := RX11) rfl rfl hk hz hc (fun sz s hs hEs => EZ_XN h0L hs hEs) (Nat.le_of_ble_eq_true rfl) (fun p e s m args below meth c R Q A ha hR hAe hA hQ hEs hC hin hr hX H locs ls hG hl => ?_)
  have hA0 : ∀ q, A q → sz0 ≤ q := by rw [hAe]; exact aA_ge h0L hEs.1
  subst hR; subst hAe; subst hQ
  have hlocks := hC.lk
  have hl : lv_has ls 2 [(0, .ref (ad 0))] := hl
  obtain ⟨a0, h_0⟩ : ∃ a, ad 0 = a := ⟨_, rfl⟩
  rw [h_0] at hl
  have ea : ∀ o ∈ [0], ad o = ad o := fun _ _ => rfl
  refine lv_aload_n hC.x hC.b dX11_init_0 rfl (lv_at hl 0 rfl) ?_
  refine n_obj hC hl.1 kw10 ⟨by decide, by decide⟩ dX11_init_1 ?_
  refine lv_aload_n hC.x hC.b dX11_init_4 rfl (lv_at hl 0 rfl) ?_
  refine n_new (j := 10) (ty := tyX2) hC hG hA (by decide) rfl (nc2 rfl) rfl inW2 tyX2_ok (fun k hk => by rcases (show k = 0 ∨ k = 1 ∨ k = 2 ∨ k = 3 ∨ k = 4 ∨ k = 5 ∨ k = 6 ∨ k = 7 ∨ k = 8 ∨ k = 9 ∨ k = 10 ∨ k = 11 ∨ k = 12 ∨ k = 13 ∨ k = 14 ∨ k = 15 ∨ k = 16 by omega) with rfl | rfl | rfl | rfl | rfl | rfl | rfl | rfl | rfl | rfl | rfl | rfl | rfl | rfl | rfl | rfl | rfl <;> rfl) kw13 kw14 kw15 (by decide) (by decide) dX11_init_5 (fun ad' H b0 e1 hb hG => ?_)
  have h_0 := (e1 _ (by decide)).trans h_0
  have ea : ∀ o ∈ [0], _ = _ := fun o ho => (e1 o ho).trans (ea o ho)
  have h_10 := hb
  refine lv_dup hC.x hC.b dX11_init_8 rfl ?_
  refine n_init (b := b0) (As := []) (rest := [.ref b0, .ref a0]) (mc := 7) (ms := 60) hC hX EZ_bl hG hA (z_X2 (sh := shK) (h := 10) rfl rfl rfl rfl rfl rfl rfl rfl (by decide) (by decide) (by decide) (by decide) (by decide) (by decide) (by decide) (by decide) hG.2.2.1 hG.2.2.2).1 (z_X2 (sh := shK) (h := 10) rfl rfl rfl rfl rfl rfl rfl rfl (by decide) (by decide) (by decide) (by decide) (by decide) (by decide) (by decide) (by decide) hG.2.2.1 hG.2.2.2).2 (by rw [← h_10]; exact n_X2 (sh := shK) (h := 10) rfl rfl rfl rfl rfl rfl rfl rfl (by decide) (by decide) (by decide) (by decide) (by decide) (by decide) (by decide) (by decide) hG.1.1 hG.2.2.1 hG.2.2.2 (fun o ho => hA0 _ (hG.1.2 o ho))) kw39 kw40 kw15 kw41 rfl a_X2_init.1 a_X2_init.2 rfl hl.1 ⟨by decide, by decide, by decide, by decide⟩ (Nat.le_of_ble_eq_true rfl) dX11_init_9 (fun ad' H locs e1 hG => ?_)
  have h_0 := (e1 _ (by decide)).trans h_0
  have h_10 := (e1 _ (by decide)).trans h_10
  have ea : ∀ o ∈ [0], _ = _ := fun o ho => (e1 o (List.mem_cons_of_mem _ ho)).trans (ea o ho)
  generalize hm1 : i_X2 10 gM0 = mm1 at hG
  refine n_putr (j := 10) hC hin hG pu_X11_12_11 h_0 h_10 (by decide) (by decide) rfl rfl (ty := (.object "OnTiptoe$House")) (by decide +kernel) (fun q => ⟨rfl, rfl⟩) dX11_init_12 (fun H locs hG => ?_)
  generalize hm2 : gsR mm1 0 0 (some 10) = mm2 at hG
  refine lv_aload_n hC.x hC.b dX11_init_15 rfl (lv_at hl 0 rfl) ?_
  refine n_new (j := 20) (ty := tyX2) hC hG hA (by decide) rfl (nc2 rfl) rfl inW2 tyX2_ok (fun k hk => by rcases (show k = 0 ∨ k = 1 ∨ k = 2 ∨ k = 3 ∨ k = 4 ∨ k = 5 ∨ k = 6 ∨ k = 7 ∨ k = 8 ∨ k = 9 ∨ k = 10 ∨ k = 11 ∨ k = 12 ∨ k = 13 ∨ k = 14 ∨ k = 15 ∨ k = 16 by omega) with rfl | rfl | rfl | rfl | rfl | rfl | rfl | rfl | rfl | rfl | rfl | rfl | rfl | rfl | rfl | rfl | rfl <;> rfl) kw13 kw14 kw15 (by decide) (by decide) dX11_init_16 (fun ad' H b8 e1 hb hG => ?_)
  have h_0 := (e1 _ (by decide)).trans h_0
  have ea : ∀ o ∈ [0], _ = _ := fun o ho => (e1 o (List.mem_cons_of_mem _ (List.mem_cons_of_mem _ (List.mem_cons_of_mem _ (List.mem_cons_of_mem _ (List.mem_cons_of_mem _ (List.mem_cons_of_mem _ (List.mem_cons_of_mem _ (List.mem_cons_of_mem _ ho))))))))).trans (ea o ho)
  have h_20 := hb
  refine lv_dup hC.x hC.b dX11_init_19 rfl ?_
  refine n_init (b := b8) (As := []) (rest := [.ref b8, .ref a0]) (mc := 7) (ms := 60) hC hX EZ_bl hG hA (z_X2 (sh := shK) (h := 20) rfl rfl rfl rfl rfl rfl rfl rfl (by decide) (by decide) (by decide) (by decide) (by decide) (by decide) (by decide) (by decide) hG.2.2.1 hG.2.2.2).1 (z_X2 (sh := shK) (h := 20) rfl rfl rfl rfl rfl rfl rfl rfl (by decide) (by decide) (by decide) (by decide) (by decide) (by decide) (by decide) (by decide) hG.2.2.1 hG.2.2.2).2 (by rw [← h_20]; exact n_X2 (sh := shK) (h := 20) rfl rfl rfl rfl rfl rfl rfl rfl (by decide) (by decide) (by decide) (by decide) (by decide) (by decide) (by decide) (by decide) hG.1.1 hG.2.2.1 hG.2.2.2 (fun o ho => hA0 _ (hG.1.2 o ho))) kw39 kw40 kw15 kw41 rfl a_X2_init.1 a_X2_init.2 rfl hl.1 ⟨by decide, by decide, by decide, by decide⟩ (Nat.le_of_ble_eq_true rfl) dX11_init_20 (fun ad' H locs e1 hG => ?_)
  have h_0 := (e1 _ (by decide)).trans h_0
  have h_20 := (e1 _ (by decide)).trans h_20
  have ea : ∀ o ∈ [0], _ = _ := fun o ho => (e1 o (List.mem_cons_of_mem _ (List.mem_cons_of_mem _ (List.mem_cons_of_mem _ (List.mem_cons_of_mem _ (List.mem_cons_of_mem _ (List.mem_cons_of_mem _ (List.mem_cons_of_mem _ (List.mem_cons_of_mem _ (List.mem_cons_of_mem _ ho)))))))))).trans (ea o ho)
  generalize hm3 : i_X2 20 mm2 = mm3 at hG
  refine n_putr (j := 20) hC hin hG pu_X11_18_11 h_0 h_20 (by decide) (by decide) rfl rfl (ty := (.object "OnTiptoe$House")) (by decide +kernel) (fun q => ⟨rfl, rfl⟩) dX11_init_23 (fun H locs hG => ?_)
  generalize hm4 : gsR mm3 0 1 (some 20) = mm4 at hG
  refine lv_aload_n hC.x hC.b dX11_init_26 rfl (lv_at hl 0 rfl) ?_
  refine lv_iconst (v := (4 : Int32)) hC.x hC.b dX11_init_27 rfl ?_
  refine n_newq (j := 1) (N := 4) (t := 1) hC hG hA (by decide) rfl kw18 hEs.2.1.2.1 rfl rfl (by decide) (by decide) (by decide) dX11_init_28 (fun ad' H b16 e1 hb hG => ?_)
  have h_0 := (e1 _ (by decide)).trans h_0
  have ea : ∀ o ∈ [0], _ = _ := fun o ho => (e1 o (List.mem_cons_of_mem _ (List.mem_cons_of_mem _ (List.mem_cons_of_mem _ (List.mem_cons_of_mem _ (List.mem_cons_of_mem _ (List.mem_cons_of_mem _ (List.mem_cons_of_mem _ (List.mem_cons_of_mem _ (List.mem_cons_of_mem _ (List.mem_cons_of_mem _ (List.mem_cons_of_mem _ (List.mem_cons_of_mem _ (List.mem_cons_of_mem _ (List.mem_cons_of_mem _ (List.mem_cons_of_mem _ (List.mem_cons_of_mem _ ho))))))))))))))))).trans (ea o ho)
  have h_1 := hb
  refine n_putr (j := 1) hC hin hG pu_X11_23_11 h_0 h_1 (by decide) (by decide) rfl rfl (ty := (.array (.object "OnTiptoe$Walker"))) (by decide +kernel) (fun q => ⟨rfl, rfl⟩) dX11_init_31 (fun H locs hG => ?_)
  generalize hm5 : gsR mm4 0 3 (some 1) = mm5 at hG
  refine lv_aload_n hC.x hC.b dX11_init_34 rfl (lv_at hl 0 rfl) ?_
  refine lv_bipush (v := (6 : Int32)) hC.x hC.b dX11_init_35 rfl ?_
  refine n_newq (j := 2) (N := 6) (t := 0) hC hG hA (by decide) rfl kw20 hEs.2.1.2.2.1 rfl rfl (by decide) (by decide) (by decide) dX11_init_37 (fun ad' H b17 e1 hb hG => ?_)
  have h_0 := (e1 _ (by decide)).trans h_0
  have ea : ∀ o ∈ [0], _ = _ := fun o ho => (e1 o (List.mem_cons_of_mem _ (List.mem_cons_of_mem _ (List.mem_cons_of_mem _ (List.mem_cons_of_mem _ (List.mem_cons_of_mem _ (List.mem_cons_of_mem _ (List.mem_cons_of_mem _ (List.mem_cons_of_mem _ (List.mem_cons_of_mem _ (List.mem_cons_of_mem _ (List.mem_cons_of_mem _ (List.mem_cons_of_mem _ (List.mem_cons_of_mem _ (List.mem_cons_of_mem _ (List.mem_cons_of_mem _ (List.mem_cons_of_mem _ (List.mem_cons_of_mem _ ho)))))))))))))))))).trans (ea o ho)
  have h_2 := hb
  refine n_putr (j := 2) hC hin hG pu_X11_29_11 h_0 h_2 (by decide) (by decide) rfl rfl (ty := (.array (.object "OnTiptoe$Night"))) (by decide +kernel) (fun q => ⟨rfl, rfl⟩) dX11_init_40 (fun H locs hG => ?_)
  generalize hm6 : gsR mm5 0 4 (some 2) = mm6 at hG
  have c_2 : gR mm6 0 4 = some (2) := by rw [← hm6]; exact gR_y ⟨rfl, rfl⟩
  refine lv_aload_n hC.x hC.b dX11_init_43 rfl (lv_at hl 0 rfl) ?_
  refine n_new (j := 30) (ty := tyX4) hC hG hA (by decide) rfl (nc2 rfl) rfl inW4 tyX4_ok (fun k hk => by rcases (show k = 0 ∨ k = 1 ∨ k = 2 ∨ k = 3 by omega) with rfl | rfl | rfl | rfl <;> rfl) kw22 kw23 kw24 (by decide) (by decide) dX11_init_44 (fun ad' H b18 e1 hb hG => ?_)
  have h_0 := (e1 _ (by decide)).trans h_0
  have ea : ∀ o ∈ [0], _ = _ := fun o ho => (e1 o (List.mem_cons_of_mem _ (List.mem_cons_of_mem _ (List.mem_cons_of_mem _ (List.mem_cons_of_mem _ (List.mem_cons_of_mem _ (List.mem_cons_of_mem _ (List.mem_cons_of_mem _ (List.mem_cons_of_mem _ (List.mem_cons_of_mem _ (List.mem_cons_of_mem _ (List.mem_cons_of_mem _ (List.mem_cons_of_mem _ (List.mem_cons_of_mem _ (List.mem_cons_of_mem _ (List.mem_cons_of_mem _ (List.mem_cons_of_mem _ (List.mem_cons_of_mem _ (List.mem_cons_of_mem _ ho))))))))))))))))))).trans (ea o ho)
  have h_30 := hb
  refine lv_dup hC.x hC.b dX11_init_47 rfl ?_
  refine n_init (b := b18) (As := []) (rest := [.ref b18, .ref a0]) (mc := 1) (ms := 100) hC hX EZ_bl hG hA (z_X4 (sh := shK) rfl rfl (by decide) (by decide) hG.2.2.1 hG.2.2.2).1 (z_X4 (sh := shK) rfl rfl (by decide) (by decide) hG.2.2.1 hG.2.2.2).2 (by rw [← h_30]; exact n_X4 (sh := shK) rfl rfl (by decide) (by decide) hG.1.1 hG.2.2.1 hG.2.2.2 (fun o ho => hA0 _ (hG.1.2 o ho))) kw51 kw52 kw24 kw53 rfl a_X4_init.1 a_X4_init.2 rfl hl.1 ⟨by decide, by decide, by decide, by decide⟩ (Nat.le_of_ble_eq_true rfl) dX11_init_48 (fun ad' H locs e1 hG => ?_)
  have h_0 := (e1 _ (by decide)).trans h_0
  have h_30 := (e1 _ (by decide)).trans h_30
  have ea : ∀ o ∈ [0], _ = _ := fun o ho => (e1 o (List.mem_cons_of_mem _ (List.mem_cons_of_mem _ (List.mem_cons_of_mem _ (List.mem_cons_of_mem _ (List.mem_cons_of_mem _ (List.mem_cons_of_mem _ (List.mem_cons_of_mem _ (List.mem_cons_of_mem _ (List.mem_cons_of_mem _ (List.mem_cons_of_mem _ (List.mem_cons_of_mem _ (List.mem_cons_of_mem _ (List.mem_cons_of_mem _ (List.mem_cons_of_mem _ (List.mem_cons_of_mem _ (List.mem_cons_of_mem _ (List.mem_cons_of_mem _ (List.mem_cons_of_mem _ (List.mem_cons_of_mem _ ho)))))))))))))))))))).trans (ea o ho)
  generalize hm7 : i_X4 mm6 = mm7 at hG
  have c_2 : gR mm7 0 4 = some (2) := by rw [← hm7]; exact (k_X4 (by decide)).trans c_2
  refine n_putr (j := 30) hC hin hG pu_X11_36_11 h_0 h_30 (by decide) (by decide) rfl rfl (ty := (.object "OnTiptoe$Reader")) (by decide +kernel) (fun q => ⟨rfl, rfl⟩) dX11_init_51 (fun H locs hG => ?_)
  generalize hm8 : gsR mm7 0 6 (some 30) = mm8 at hG
  have c_2 : gR mm8 0 4 = some (2) := by rw [← hm8]; first | exact c_2 | (rw [gR_n (by omega)]; exact c_2)
  refine lv_aload_n hC.x hC.b dX11_init_54 rfl (lv_at hl 0 rfl) ?_
  refine n_new (j := 32) (ty := tyX10) hC hG hA (by decide) rfl (nc2 rfl) rfl inW10 tyX10_ok (fun k hk => by rcases (show k = 0 ∨ k = 1 ∨ k = 2 ∨ k = 3 ∨ k = 4 ∨ k = 5 ∨ k = 6 ∨ k = 7 ∨ k = 8 ∨ k = 9 by omega) with rfl | rfl | rfl | rfl | rfl | rfl | rfl | rfl | rfl | rfl <;> rfl) kw26 kw27 kw28 (by decide) (by decide) dX11_init_55 (fun ad' H b20 e1 hb hG => ?_)
  have h_0 := (e1 _ (by decide)).trans h_0
  have ea : ∀ o ∈ [0], _ = _ := fun o ho => (e1 o (List.mem_cons_of_mem _ (List.mem_cons_of_mem _ (List.mem_cons_of_mem _ (List.mem_cons_of_mem _ (List.mem_cons_of_mem _ (List.mem_cons_of_mem _ (List.mem_cons_of_mem _ (List.mem_cons_of_mem _ (List.mem_cons_of_mem _ (List.mem_cons_of_mem _ (List.mem_cons_of_mem _ (List.mem_cons_of_mem _ (List.mem_cons_of_mem _ (List.mem_cons_of_mem _ (List.mem_cons_of_mem _ (List.mem_cons_of_mem _ (List.mem_cons_of_mem _ (List.mem_cons_of_mem _ (List.mem_cons_of_mem _ (List.mem_cons_of_mem _ ho))))))))))))))))))))).trans (ea o ho)
  have h_32 := hb
  refine lv_dup hC.x hC.b dX11_init_58 rfl ?_
  refine n_init (b := b20) (As := []) (rest := [.ref b20, .ref a0]) (mc := 3) (ms := 528) hC hX EZ_bl hG hA (z_X10 (sh := shK) rfl rfl rfl rfl (by decide) (by decide) (by decide) (by decide) hG.2.2.1 hG.2.2.2).1 (z_X10 (sh := shK) rfl rfl rfl rfl (by decide) (by decide) (by decide) (by decide) hG.2.2.1 hG.2.2.2).2 (by rw [← h_32]; exact n_X10 (sh := shK) rfl rfl rfl rfl (by decide) (by decide) (by decide) (by decide) hG.1.1 hG.2.2.1 hG.2.2.2 (fun o ho => hA0 _ (hG.1.2 o ho))) kw57 kw58 kw28 kw59 rfl a_X10_init.1 a_X10_init.2 rfl hl.1 ⟨by decide, by decide, by decide, by decide⟩ (Nat.le_of_ble_eq_true rfl) dX11_init_59 (fun ad' H locs e1 hG => ?_)
  have h_0 := (e1 _ (by decide)).trans h_0
  have h_32 := (e1 _ (by decide)).trans h_32
  have ea : ∀ o ∈ [0], _ = _ := fun o ho => (e1 o (List.mem_cons_of_mem _ (List.mem_cons_of_mem _ (List.mem_cons_of_mem _ (List.mem_cons_of_mem _ (List.mem_cons_of_mem _ (List.mem_cons_of_mem _ (List.mem_cons_of_mem _ (List.mem_cons_of_mem _ (List.mem_cons_of_mem _ (List.mem_cons_of_mem _ (List.mem_cons_of_mem _ (List.mem_cons_of_mem _ (List.mem_cons_of_mem _ (List.mem_cons_of_mem _ (List.mem_cons_of_mem _ (List.mem_cons_of_mem _ (List.mem_cons_of_mem _ (List.mem_cons_of_mem _ (List.mem_cons_of_mem _ (List.mem_cons_of_mem _ (List.mem_cons_of_mem _ ho)))))))))))))))))))))).trans (ea o ho)
  generalize hm9 : i_X10 mm8 = mm9 at hG
  have c_2 : gR mm9 0 4 = some (2) := by rw [← hm9]; exact (k_X10 (by decide)).trans c_2
  refine n_putr (j := 32) hC hin hG pu_X11_43_11 h_0 h_32 (by decide) (by decide) rfl rfl (ty := (.object "OnTiptoe$Ways")) (by decide +kernel) (fun q => ⟨rfl, rfl⟩) dX11_init_62 (fun H locs hG => ?_)
  generalize hm10 : gsR mm9 0 7 (some 32) = mm10 at hG
  have c_2 : gR mm10 0 4 = some (2) := by rw [← hm10]; first | exact c_2 | (rw [gR_n (by omega)]; exact c_2)
  refine lv_aload_n hC.x hC.b dX11_init_65 rfl (lv_at hl 0 rfl) ?_
  refine lv_bipush (v := (6 : Int32)) hC.x hC.b dX11_init_66 rfl ?_
  refine n_newI (j := 3) (N := 6) hC hG hA (by decide) rfl kw30 rfl (by decide) (by decide) (by decide) dX11_init_68 (fun ad' H b24 e1 hb hG => ?_)
  have h_0 := (e1 _ (by decide)).trans h_0
  have ea : ∀ o ∈ [0], _ = _ := fun o ho => (e1 o (List.mem_cons_of_mem _ (List.mem_cons_of_mem _ (List.mem_cons_of_mem _ (List.mem_cons_of_mem _ (List.mem_cons_of_mem _ (List.mem_cons_of_mem _ (List.mem_cons_of_mem _ (List.mem_cons_of_mem _ (List.mem_cons_of_mem _ (List.mem_cons_of_mem _ (List.mem_cons_of_mem _ (List.mem_cons_of_mem _ (List.mem_cons_of_mem _ (List.mem_cons_of_mem _ (List.mem_cons_of_mem _ (List.mem_cons_of_mem _ (List.mem_cons_of_mem _ (List.mem_cons_of_mem _ (List.mem_cons_of_mem _ (List.mem_cons_of_mem _ (List.mem_cons_of_mem _ (List.mem_cons_of_mem _ (List.mem_cons_of_mem _ (List.mem_cons_of_mem _ ho))))))))))))))))))))))))).trans (ea o ho)
  have h_3 := hb
  refine n_putr (j := 3) hC hin hG pu_X11_47_11 h_0 h_3 (by decide) (by decide) rfl rfl (ty := (.array .int)) (by decide +kernel) (fun q => ⟨rfl, rfl⟩) dX11_init_70 (fun H locs hG => ?_)
  generalize hm11 : gsR mm10 0 9 (some 3) = mm11 at hG
  have c_2 : gR mm11 0 4 = some (2) := by rw [← hm11]; first | exact c_2 | (rw [gR_n (by omega)]; exact c_2)
  have c_3 : gR mm11 0 9 = some (3) := by rw [← hm11]; exact gR_y ⟨rfl, rfl⟩
  refine lv_aload_n hC.x hC.b dX11_init_73 rfl (lv_at hl 0 rfl) ?_
  refine lv_bipush (v := (6 : Int32)) hC.x hC.b dX11_init_74 rfl ?_
  refine n_newI (j := 4) (N := 6) hC hG hA (by decide) rfl kw30 rfl (by decide) (by decide) (by decide) dX11_init_76 (fun ad' H b25 e1 hb hG => ?_)
  have h_0 := (e1 _ (by decide)).trans h_0
  have ea : ∀ o ∈ [0], _ = _ := fun o ho => (e1 o (List.mem_cons_of_mem _ (List.mem_cons_of_mem _ (List.mem_cons_of_mem _ (List.mem_cons_of_mem _ (List.mem_cons_of_mem _ (List.mem_cons_of_mem _ (List.mem_cons_of_mem _ (List.mem_cons_of_mem _ (List.mem_cons_of_mem _ (List.mem_cons_of_mem _ (List.mem_cons_of_mem _ (List.mem_cons_of_mem _ (List.mem_cons_of_mem _ (List.mem_cons_of_mem _ (List.mem_cons_of_mem _ (List.mem_cons_of_mem _ (List.mem_cons_of_mem _ (List.mem_cons_of_mem _ (List.mem_cons_of_mem _ (List.mem_cons_of_mem _ (List.mem_cons_of_mem _ (List.mem_cons_of_mem _ (List.mem_cons_of_mem _ (List.mem_cons_of_mem _ (List.mem_cons_of_mem _ ho)))))))))))))))))))))))))).trans (ea o ho)
  have h_4 := hb
  refine n_putr (j := 4) hC hin hG pu_X11_51_11 h_0 h_4 (by decide) (by decide) rfl rfl (ty := (.array .int)) (by decide +kernel) (fun q => ⟨rfl, rfl⟩) dX11_init_78 (fun H locs hG => ?_)
  generalize hm12 : gsR mm11 0 10 (some 4) = mm12 at hG
  have c_2 : gR mm12 0 4 = some (2) := by rw [← hm12]; first | exact c_2 | (rw [gR_n (by omega)]; exact c_2)
  have c_3 : gR mm12 0 9 = some (3) := by rw [← hm12]; first | exact c_3 | (rw [gR_n (by omega)]; exact c_3)
  refine lv_aload_n hC.x hC.b dX11_init_81 rfl (lv_at hl 0 rfl) ?_
  refine lv_bipush (v := (6 : Int32)) hC.x hC.b dX11_init_82 rfl ?_
  refine lv_bipush (v := (60 : Int32)) hC.x hC.b dX11_init_84 rfl ?_
  refine n_mul hC hG hA (tap_new (by decide)) rfl tap_sh kw33 hEs.2.1.2.2.2 kw34 rfl rfl (by decide) (by decide) dX11_init_86 (fun ad' H b26 e1 hb hG => ?_)
  have h_0 := (e1 _ (by decide)).trans h_0
  have ea : ∀ o ∈ [0], _ = _ := fun o ho => (e1 o (List.mem_cons_of_mem _ (List.mem_cons_of_mem _ (List.mem_cons_of_mem _ (List.mem_cons_of_mem _ (List.mem_cons_of_mem _ (List.mem_cons_of_mem _ (List.mem_cons_of_mem _ (List.mem_cons_of_mem _ (List.mem_cons_of_mem _ (List.mem_cons_of_mem _ (List.mem_cons_of_mem _ (List.mem_cons_of_mem _ (List.mem_cons_of_mem _ (List.mem_cons_of_mem _ (List.mem_cons_of_mem _ (List.mem_cons_of_mem _ (List.mem_cons_of_mem _ (List.mem_cons_of_mem _ (List.mem_cons_of_mem _ (List.mem_cons_of_mem _ (List.mem_cons_of_mem _ (List.mem_cons_of_mem _ (List.mem_cons_of_mem _ (List.mem_cons_of_mem _ (List.mem_cons_of_mem _ (List.mem_cons_of_mem _ ho))))))))))))))))))))))))))).trans (ea o ho)
  have h_5 := hb
  generalize hm13 : mTap mm12 = mm13 at hG
  have c_2 : gR mm13 0 4 = some (2) := by rw [← hm13, mTap_R (by decide)]; exact c_2
  have c_3 : gR mm13 0 9 = some (3) := by rw [← hm13, mTap_R (by decide)]; exact c_3
  refine n_putr (j := 5) hC hin hG pu_X11_56_11 h_0 h_5 (by decide) (by decide) rfl rfl (ty := (.array (.array .long))) (by decide +kernel) (fun q => ⟨rfl, rfl⟩) dX11_init_90 (fun H locs hG => ?_)
  generalize hm14 : gsR mm13 0 11 (some 5) = mm14 at hG
  have c_2 : gR mm14 0 4 = some (2) := by rw [← hm14]; first | exact c_2 | (rw [gR_n (by omega)]; exact c_2)
  have c_3 : gR mm14 0 9 = some (3) := by rw [← hm14]; first | exact c_3 | (rw [gR_n (by omega)]; exact c_3)
  refine lv_aload_n hC.x hC.b dX11_init_93 rfl (lv_at hl 0 rfl) ?_
  refine lv_bipush (v := (60 : Int32)) hC.x hC.b dX11_init_94 rfl ?_
  refine n_newJ (j := 6) (N := 60) hC hG hA (by decide) rfl kw34 rfl (by decide) (by decide) (by decide) dX11_init_96 (fun ad' H b33 e1 hb hG => ?_)
  have h_0 := (e1 _ (by decide)).trans h_0
  have ea : ∀ o ∈ [0], _ = _ := fun o ho => (e1 o (List.mem_cons_of_mem _ (List.mem_cons_of_mem _ (List.mem_cons_of_mem _ (List.mem_cons_of_mem _ (List.mem_cons_of_mem _ (List.mem_cons_of_mem _ (List.mem_cons_of_mem _ (List.mem_cons_of_mem _ (List.mem_cons_of_mem _ (List.mem_cons_of_mem _ (List.mem_cons_of_mem _ (List.mem_cons_of_mem _ (List.mem_cons_of_mem _ (List.mem_cons_of_mem _ (List.mem_cons_of_mem _ (List.mem_cons_of_mem _ (List.mem_cons_of_mem _ (List.mem_cons_of_mem _ (List.mem_cons_of_mem _ (List.mem_cons_of_mem _ (List.mem_cons_of_mem _ (List.mem_cons_of_mem _ (List.mem_cons_of_mem _ (List.mem_cons_of_mem _ (List.mem_cons_of_mem _ (List.mem_cons_of_mem _ (List.mem_cons_of_mem _ (List.mem_cons_of_mem _ (List.mem_cons_of_mem _ (List.mem_cons_of_mem _ (List.mem_cons_of_mem _ (List.mem_cons_of_mem _ (List.mem_cons_of_mem _ ho)))))))))))))))))))))))))))))))))).trans (ea o ho)
  have h_6 := hb
  refine n_putr (j := 6) hC hin hG pu_X11_59_11 h_0 h_6 (by decide) (by decide) rfl rfl (ty := (.array .long)) (by decide +kernel) (fun q => ⟨rfl, rfl⟩) dX11_init_98 (fun H locs hG => ?_)
  generalize hm15 : gsR mm14 0 12 (some 6) = mm15 at hG
  have c_2 : gR mm15 0 4 = some (2) := by rw [← hm15]; first | exact c_2 | (rw [gR_n (by omega)]; exact c_2)
  have c_3 : gR mm15 0 9 = some (3) := by rw [← hm15]; first | exact c_3 | (rw [gR_n (by omega)]; exact c_3)
  refine lv_iconst (v := (0 : Int32)) hC.x hC.b dX11_init_101 rfl ?_
  refine lv_istore_n (lv' := [(1, .int (0 : Int32)), (0, .ref a0)]) hC.x hC.b dX11_init_102 rfl hl (by decide) rfl (fun ls hl => ?_)
  refine lv_iload_n hC.x hC.b dX11_init_103 rfl (lv_at hl 0 rfl) ?_
  refine lv_bipush (v := (6 : Int32)) hC.x hC.b dX11_init_104 rfl ?_
  refine lv_icmp_ge (tgt := 128) hC.x hC.b dX11_init_106 (by decide) (fun z => absurd z (by decide)) (fun _ => ?_)
  refine lv_aload_n hC.x hC.b dX11_init_109 rfl (lv_at hl 1 rfl) ?_
  refine n_getr hC hG fu_X11_29_11 h_0 rfl (by decide) rfl rfl c_2 dX11_init_110 ?_
  generalize h_2 : ad' 2 = bg
  refine lv_iload_n hC.x hC.b dX11_init_113 rfl (lv_at hl 0 rfl) ?_
  refine n_new (j := 60) (ty := tyX3) hC hG hA (by decide) rfl (nc2 rfl) rfl inW3 tyX3_ok (fun k hk => by rcases (show k = 0 ∨ k = 1 ∨ k = 2 ∨ k = 3 ∨ k = 4 ∨ k = 5 by omega) with rfl | rfl | rfl | rfl | rfl | rfl <;> rfl) kw20 kw37 kw38 (by decide) (by decide) dX11_init_114 (fun ad' H b34 e1 hb hG => ?_)
  have h_0 := (e1 _ (by decide)).trans h_0
  have h_2 := (e1 _ (by decide)).trans h_2
  have ea : ∀ o ∈ [0], _ = _ := fun o ho => (e1 o (List.mem_cons_of_mem _ (List.mem_cons_of_mem _ (List.mem_cons_of_mem _ (List.mem_cons_of_mem _ (List.mem_cons_of_mem _ (List.mem_cons_of_mem _ (List.mem_cons_of_mem _ (List.mem_cons_of_mem _ (List.mem_cons_of_mem _ (List.mem_cons_of_mem _ (List.mem_cons_of_mem _ (List.mem_cons_of_mem _ (List.mem_cons_of_mem _ (List.mem_cons_of_mem _ (List.mem_cons_of_mem _ (List.mem_cons_of_mem _ (List.mem_cons_of_mem _ (List.mem_cons_of_mem _ (List.mem_cons_of_mem _ (List.mem_cons_of_mem _ (List.mem_cons_of_mem _ (List.mem_cons_of_mem _ (List.mem_cons_of_mem _ (List.mem_cons_of_mem _ (List.mem_cons_of_mem _ (List.mem_cons_of_mem _ (List.mem_cons_of_mem _ (List.mem_cons_of_mem _ (List.mem_cons_of_mem _ (List.mem_cons_of_mem _ (List.mem_cons_of_mem _ (List.mem_cons_of_mem _ (List.mem_cons_of_mem _ (List.mem_cons_of_mem _ ho))))))))))))))))))))))))))))))))))).trans (ea o ho)
  have h_60 := hb
  refine lv_dup hC.x hC.b dX11_init_117 rfl ?_
  refine n_init (b := b34) (As := []) (rest := [.ref b34, .int (0 : Int32), .ref bg]) (mc := 4) (ms := 130) hC hX EZ_bl hG hA (z_X3 (sh := shK) (g := 60) rfl rfl rfl rfl rfl (by decide) (by decide) (by decide) (by decide) (by decide) hG.2.2.1 hG.2.2.2).1 (z_X3 (sh := shK) (g := 60) rfl rfl rfl rfl rfl (by decide) (by decide) (by decide) (by decide) (by decide) hG.2.2.1 hG.2.2.2).2 (by rw [← h_60]; exact n_X3 (sh := shK) (g := 60) rfl rfl rfl rfl rfl (by decide) (by decide) (by decide) (by decide) (by decide) hG.1.1 hG.2.2.1 hG.2.2.2 (fun o ho => hA0 _ (hG.1.2 o ho))) kw64 kw65 kw38 kw66 rfl a_X3_init.1 a_X3_init.2 rfl hl.1 ⟨by decide, by decide, by decide, by decide⟩ (Nat.le_of_ble_eq_true rfl) dX11_init_118 (fun ad' H locs e1 hG => ?_)
  have h_0 := (e1 _ (by decide)).trans h_0
  have h_2 := (e1 _ (by decide)).trans h_2
  have h_60 := (e1 _ (by decide)).trans h_60
  have ea : ∀ o ∈ [0], _ = _ := fun o ho => (e1 o (List.mem_cons_of_mem _ (List.mem_cons_of_mem _ (List.mem_cons_of_mem _ (List.mem_cons_of_mem _ (List.mem_cons_of_mem _ (List.mem_cons_of_mem _ (List.mem_cons_of_mem _ (List.mem_cons_of_mem _ (List.mem_cons_of_mem _ (List.mem_cons_of_mem _ (List.mem_cons_of_mem _ (List.mem_cons_of_mem _ (List.mem_cons_of_mem _ (List.mem_cons_of_mem _ (List.mem_cons_of_mem _ (List.mem_cons_of_mem _ (List.mem_cons_of_mem _ (List.mem_cons_of_mem _ (List.mem_cons_of_mem _ (List.mem_cons_of_mem _ (List.mem_cons_of_mem _ (List.mem_cons_of_mem _ (List.mem_cons_of_mem _ (List.mem_cons_of_mem _ (List.mem_cons_of_mem _ (List.mem_cons_of_mem _ (List.mem_cons_of_mem _ (List.mem_cons_of_mem _ (List.mem_cons_of_mem _ (List.mem_cons_of_mem _ (List.mem_cons_of_mem _ (List.mem_cons_of_mem _ (List.mem_cons_of_mem _ (List.mem_cons_of_mem _ (List.mem_cons_of_mem _ ho)))))))))))))))))))))))))))))))))))).trans (ea o ho)
  generalize hm16 : i_X3 60 mm15 = mm16 at hG
  have c_2 : gR mm16 0 4 = some (2) := by rw [← hm16]; exact (k_X3 (by decide)).trans c_2
  have c_3 : gR mm16 0 9 = some (3) := by rw [← hm16]; exact (k_X3 (by decide)).trans c_3
  refine n_aast (t := 0) (j := 60) hC hG h_2 h_60 (by decide) (by decide) rfl rfl rfl rfl (Or.inl rfl) (by decide) dX11_init_121 (fun H locs hG => ?_)
  generalize hm17 : gsR mm16 2 (ix (0 : Int32)) (some 60) = mm17 at hG
  have c_2 : gR mm17 0 4 = some (2) := by rw [← hm17]; first | exact c_2 | (rw [gR_n (by omega)]; exact c_2)
  have c_3 : gR mm17 0 9 = some (3) := by rw [← hm17]; first | exact c_3 | (rw [gR_n (by omega)]; exact c_3)
  refine lv_iinc (lv' := [(1, .int (1 : Int32)), (0, .ref a0)]) (v := (1 : Int32)) hC.x hC.b dX11_init_122 hl (k := 0) rfl (by decide) (by decide) rfl (fun ls hl => ?_)
  refine lv_goto (tgt := 103) hC.x hC.b dX11_init_125 (by decide) ?_
  refine lv_iload_n hC.x hC.b dX11_init_103 rfl (lv_at hl 0 rfl) ?_
  refine lv_bipush (v := (6 : Int32)) hC.x hC.b dX11_init_104 rfl ?_
  refine lv_icmp_ge (tgt := 128) hC.x hC.b dX11_init_106 (by decide) (fun z => absurd z (by decide)) (fun _ => ?_)
  refine lv_aload_n hC.x hC.b dX11_init_109 rfl (lv_at hl 1 rfl) ?_
  refine n_getr hC hG fu_X11_29_11 h_0 rfl (by decide) rfl rfl c_2 dX11_init_110 ?_
  generalize h_2 : ad' 2 = bg
  refine lv_iload_n hC.x hC.b dX11_init_113 rfl (lv_at hl 0 rfl) ?_
  refine n_new (j := 65) (ty := tyX3) hC hG hA (by decide) rfl (nc2 rfl) rfl inW3 tyX3_ok (fun k hk => by rcases (show k = 0 ∨ k = 1 ∨ k = 2 ∨ k = 3 ∨ k = 4 ∨ k = 5 by omega) with rfl | rfl | rfl | rfl | rfl | rfl <;> rfl) kw20 kw37 kw38 (by decide) (by decide) dX11_init_114 (fun ad' H b39 e1 hb hG => ?_)
  have h_0 := (e1 _ (by decide)).trans h_0
  have h_2 := (e1 _ (by decide)).trans h_2
  have ea : ∀ o ∈ [0], _ = _ := fun o ho => (e1 o (List.mem_cons_of_mem _ (List.mem_cons_of_mem _ (List.mem_cons_of_mem _ (List.mem_cons_of_mem _ (List.mem_cons_of_mem _ (List.mem_cons_of_mem _ (List.mem_cons_of_mem _ (List.mem_cons_of_mem _ (List.mem_cons_of_mem _ (List.mem_cons_of_mem _ (List.mem_cons_of_mem _ (List.mem_cons_of_mem _ (List.mem_cons_of_mem _ (List.mem_cons_of_mem _ (List.mem_cons_of_mem _ (List.mem_cons_of_mem _ (List.mem_cons_of_mem _ (List.mem_cons_of_mem _ (List.mem_cons_of_mem _ (List.mem_cons_of_mem _ (List.mem_cons_of_mem _ (List.mem_cons_of_mem _ (List.mem_cons_of_mem _ (List.mem_cons_of_mem _ (List.mem_cons_of_mem _ (List.mem_cons_of_mem _ (List.mem_cons_of_mem _ (List.mem_cons_of_mem _ (List.mem_cons_of_mem _ (List.mem_cons_of_mem _ (List.mem_cons_of_mem _ (List.mem_cons_of_mem _ (List.mem_cons_of_mem _ (List.mem_cons_of_mem _ (List.mem_cons_of_mem _ (List.mem_cons_of_mem _ (List.mem_cons_of_mem _ (List.mem_cons_of_mem _ (List.mem_cons_of_mem _ ho)))))))))))))))))))))))))))))))))))))))).trans (ea o ho)
  have h_65 := hb
  refine lv_dup hC.x hC.b dX11_init_117 rfl ?_
  refine n_init (b := b39) (As := []) (rest := [.ref b39, .int (1 : Int32), .ref bg]) (mc := 4) (ms := 130) hC hX EZ_bl hG hA (z_X3 (sh := shK) (g := 65) rfl rfl rfl rfl rfl (by decide) (by decide) (by decide) (by decide) (by decide) hG.2.2.1 hG.2.2.2).1 (z_X3 (sh := shK) (g := 65) rfl rfl rfl rfl rfl (by decide) (by decide) (by decide) (by decide) (by decide) hG.2.2.1 hG.2.2.2).2 (by rw [← h_65]; exact n_X3 (sh := shK) (g := 65) rfl rfl rfl rfl rfl (by decide) (by decide) (by decide) (by decide) (by decide) hG.1.1 hG.2.2.1 hG.2.2.2 (fun o ho => hA0 _ (hG.1.2 o ho))) kw64 kw65 kw38 kw66 rfl a_X3_init.1 a_X3_init.2 rfl hl.1 ⟨by decide, by decide, by decide, by decide⟩ (Nat.le_of_ble_eq_true rfl) dX11_init_118 (fun ad' H locs e1 hG => ?_)
  have h_0 := (e1 _ (by decide)).trans h_0
  have h_2 := (e1 _ (by decide)).trans h_2
  have h_65 := (e1 _ (by decide)).trans h_65
  have ea : ∀ o ∈ [0], _ = _ := fun o ho => (e1 o (List.mem_cons_of_mem _ (List.mem_cons_of_mem _ (List.mem_cons_of_mem _ (List.mem_cons_of_mem _ (List.mem_cons_of_mem _ (List.mem_cons_of_mem _ (List.mem_cons_of_mem _ (List.mem_cons_of_mem _ (List.mem_cons_of_mem _ (List.mem_cons_of_mem _ (List.mem_cons_of_mem _ (List.mem_cons_of_mem _ (List.mem_cons_of_mem _ (List.mem_cons_of_mem _ (List.mem_cons_of_mem _ (List.mem_cons_of_mem _ (List.mem_cons_of_mem _ (List.mem_cons_of_mem _ (List.mem_cons_of_mem _ (List.mem_cons_of_mem _ (List.mem_cons_of_mem _ (List.mem_cons_of_mem _ (List.mem_cons_of_mem _ (List.mem_cons_of_mem _ (List.mem_cons_of_mem _ (List.mem_cons_of_mem _ (List.mem_cons_of_mem _ (List.mem_cons_of_mem _ (List.mem_cons_of_mem _ (List.mem_cons_of_mem _ (List.mem_cons_of_mem _ (List.mem_cons_of_mem _ (List.mem_cons_of_mem _ (List.mem_cons_of_mem _ (List.mem_cons_of_mem _ (List.mem_cons_of_mem _ (List.mem_cons_of_mem _ (List.mem_cons_of_mem _ (List.mem_cons_of_mem _ (List.mem_cons_of_mem _ ho))))))))))))))))))))))))))))))))))))))))).trans (ea o ho)
  generalize hm18 : i_X3 65 mm17 = mm18 at hG
  have c_2 : gR mm18 0 4 = some (2) := by rw [← hm18]; exact (k_X3 (by decide)).trans c_2
  have c_3 : gR mm18 0 9 = some (3) := by rw [← hm18]; exact (k_X3 (by decide)).trans c_3
  refine n_aast (t := 0) (j := 65) hC hG h_2 h_65 (by decide) (by decide) rfl rfl rfl rfl (Or.inl rfl) (by decide) dX11_init_121 (fun H locs hG => ?_)
  generalize hm19 : gsR mm18 2 (ix (1 : Int32)) (some 65) = mm19 at hG
  have c_2 : gR mm19 0 4 = some (2) := by rw [← hm19]; first | exact c_2 | (rw [gR_n (by omega)]; exact c_2)
  have c_3 : gR mm19 0 9 = some (3) := by rw [← hm19]; first | exact c_3 | (rw [gR_n (by omega)]; exact c_3)
  refine lv_iinc (lv' := [(1, .int (2 : Int32)), (0, .ref a0)]) (v := (2 : Int32)) hC.x hC.b dX11_init_122 hl (k := 0) rfl (by decide) (by decide) rfl (fun ls hl => ?_)
  refine lv_goto (tgt := 103) hC.x hC.b dX11_init_125 (by decide) ?_
  refine lv_iload_n hC.x hC.b dX11_init_103 rfl (lv_at hl 0 rfl) ?_
  refine lv_bipush (v := (6 : Int32)) hC.x hC.b dX11_init_104 rfl ?_
  refine lv_icmp_ge (tgt := 128) hC.x hC.b dX11_init_106 (by decide) (fun z => absurd z (by decide)) (fun _ => ?_)
  refine lv_aload_n hC.x hC.b dX11_init_109 rfl (lv_at hl 1 rfl) ?_
  refine n_getr hC hG fu_X11_29_11 h_0 rfl (by decide) rfl rfl c_2 dX11_init_110 ?_
  generalize h_2 : ad' 2 = bg
  refine lv_iload_n hC.x hC.b dX11_init_113 rfl (lv_at hl 0 rfl) ?_
  refine n_new (j := 70) (ty := tyX3) hC hG hA (by decide) rfl (nc2 rfl) rfl inW3 tyX3_ok (fun k hk => by rcases (show k = 0 ∨ k = 1 ∨ k = 2 ∨ k = 3 ∨ k = 4 ∨ k = 5 by omega) with rfl | rfl | rfl | rfl | rfl | rfl <;> rfl) kw20 kw37 kw38 (by decide) (by decide) dX11_init_114 (fun ad' H b44 e1 hb hG => ?_)
  have h_0 := (e1 _ (by decide)).trans h_0
  have h_2 := (e1 _ (by decide)).trans h_2
  have ea : ∀ o ∈ [0], _ = _ := fun o ho => (e1 o (List.mem_cons_of_mem _ (List.mem_cons_of_mem _ (List.mem_cons_of_mem _ (List.mem_cons_of_mem _ (List.mem_cons_of_mem _ (List.mem_cons_of_mem _ (List.mem_cons_of_mem _ (List.mem_cons_of_mem _ (List.mem_cons_of_mem _ (List.mem_cons_of_mem _ (List.mem_cons_of_mem _ (List.mem_cons_of_mem _ (List.mem_cons_of_mem _ (List.mem_cons_of_mem _ (List.mem_cons_of_mem _ (List.mem_cons_of_mem _ (List.mem_cons_of_mem _ (List.mem_cons_of_mem _ (List.mem_cons_of_mem _ (List.mem_cons_of_mem _ (List.mem_cons_of_mem _ (List.mem_cons_of_mem _ (List.mem_cons_of_mem _ (List.mem_cons_of_mem _ (List.mem_cons_of_mem _ (List.mem_cons_of_mem _ (List.mem_cons_of_mem _ (List.mem_cons_of_mem _ (List.mem_cons_of_mem _ (List.mem_cons_of_mem _ (List.mem_cons_of_mem _ (List.mem_cons_of_mem _ (List.mem_cons_of_mem _ (List.mem_cons_of_mem _ (List.mem_cons_of_mem _ (List.mem_cons_of_mem _ (List.mem_cons_of_mem _ (List.mem_cons_of_mem _ (List.mem_cons_of_mem _ (List.mem_cons_of_mem _ (List.mem_cons_of_mem _ (List.mem_cons_of_mem _ (List.mem_cons_of_mem _ (List.mem_cons_of_mem _ ho))))))))))))))))))))))))))))))))))))))))))))).trans (ea o ho)
  have h_70 := hb
  refine lv_dup hC.x hC.b dX11_init_117 rfl ?_
  refine n_init (b := b44) (As := []) (rest := [.ref b44, .int (2 : Int32), .ref bg]) (mc := 4) (ms := 130) hC hX EZ_bl hG hA (z_X3 (sh := shK) (g := 70) rfl rfl rfl rfl rfl (by decide) (by decide) (by decide) (by decide) (by decide) hG.2.2.1 hG.2.2.2).1 (z_X3 (sh := shK) (g := 70) rfl rfl rfl rfl rfl (by decide) (by decide) (by decide) (by decide) (by decide) hG.2.2.1 hG.2.2.2).2 (by rw [← h_70]; exact n_X3 (sh := shK) (g := 70) rfl rfl rfl rfl rfl (by decide) (by decide) (by decide) (by decide) (by decide) hG.1.1 hG.2.2.1 hG.2.2.2 (fun o ho => hA0 _ (hG.1.2 o ho))) kw64 kw65 kw38 kw66 rfl a_X3_init.1 a_X3_init.2 rfl hl.1 ⟨by decide, by decide, by decide, by decide⟩ (Nat.le_of_ble_eq_true rfl) dX11_init_118 (fun ad' H locs e1 hG => ?_)
  have h_0 := (e1 _ (by decide)).trans h_0
  have h_2 := (e1 _ (by decide)).trans h_2
  have h_70 := (e1 _ (by decide)).trans h_70
  have ea : ∀ o ∈ [0], _ = _ := fun o ho => (e1 o (List.mem_cons_of_mem _ (List.mem_cons_of_mem _ (List.mem_cons_of_mem _ (List.mem_cons_of_mem _ (List.mem_cons_of_mem _ (List.mem_cons_of_mem _ (List.mem_cons_of_mem _ (List.mem_cons_of_mem _ (List.mem_cons_of_mem _ (List.mem_cons_of_mem _ (List.mem_cons_of_mem _ (List.mem_cons_of_mem _ (List.mem_cons_of_mem _ (List.mem_cons_of_mem _ (List.mem_cons_of_mem _ (List.mem_cons_of_mem _ (List.mem_cons_of_mem _ (List.mem_cons_of_mem _ (List.mem_cons_of_mem _ (List.mem_cons_of_mem _ (List.mem_cons_of_mem _ (List.mem_cons_of_mem _ (List.mem_cons_of_mem _ (List.mem_cons_of_mem _ (List.mem_cons_of_mem _ (List.mem_cons_of_mem _ (List.mem_cons_of_mem _ (List.mem_cons_of_mem _ (List.mem_cons_of_mem _ (List.mem_cons_of_mem _ (List.mem_cons_of_mem _ (List.mem_cons_of_mem _ (List.mem_cons_of_mem _ (List.mem_cons_of_mem _ (List.mem_cons_of_mem _ (List.mem_cons_of_mem _ (List.mem_cons_of_mem _ (List.mem_cons_of_mem _ (List.mem_cons_of_mem _ (List.mem_cons_of_mem _ (List.mem_cons_of_mem _ (List.mem_cons_of_mem _ (List.mem_cons_of_mem _ (List.mem_cons_of_mem _ (List.mem_cons_of_mem _ ho)))))))))))))))))))))))))))))))))))))))))))))).trans (ea o ho)
  generalize hm20 : i_X3 70 mm19 = mm20 at hG
  have c_2 : gR mm20 0 4 = some (2) := by rw [← hm20]; exact (k_X3 (by decide)).trans c_2
  have c_3 : gR mm20 0 9 = some (3) := by rw [← hm20]; exact (k_X3 (by decide)).trans c_3
  refine n_aast (t := 0) (j := 70) hC hG h_2 h_70 (by decide) (by decide) rfl rfl rfl rfl (Or.inl rfl) (by decide) dX11_init_121 (fun H locs hG => ?_)
  generalize hm21 : gsR mm20 2 (ix (2 : Int32)) (some 70) = mm21 at hG
  have c_2 : gR mm21 0 4 = some (2) := by rw [← hm21]; first | exact c_2 | (rw [gR_n (by omega)]; exact c_2)
  have c_3 : gR mm21 0 9 = some (3) := by rw [← hm21]; first | exact c_3 | (rw [gR_n (by omega)]; exact c_3)
  refine lv_iinc (lv' := [(1, .int (3 : Int32)), (0, .ref a0)]) (v := (3 : Int32)) hC.x hC.b dX11_init_122 hl (k := 0) rfl (by decide) (by decide) rfl (fun ls hl => ?_)
  refine lv_goto (tgt := 103) hC.x hC.b dX11_init_125 (by decide) ?_
  refine lv_iload_n hC.x hC.b dX11_init_103 rfl (lv_at hl 0 rfl) ?_
  refine lv_bipush (v := (6 : Int32)) hC.x hC.b dX11_init_104 rfl ?_
  refine lv_icmp_ge (tgt := 128) hC.x hC.b dX11_init_106 (by decide) (fun z => absurd z (by decide)) (fun _ => ?_)
  refine lv_aload_n hC.x hC.b dX11_init_109 rfl (lv_at hl 1 rfl) ?_
  refine n_getr hC hG fu_X11_29_11 h_0 rfl (by decide) rfl rfl c_2 dX11_init_110 ?_
  generalize h_2 : ad' 2 = bg
  refine lv_iload_n hC.x hC.b dX11_init_113 rfl (lv_at hl 0 rfl) ?_
  refine n_new (j := 75) (ty := tyX3) hC hG hA (by decide) rfl (nc2 rfl) rfl inW3 tyX3_ok (fun k hk => by rcases (show k = 0 ∨ k = 1 ∨ k = 2 ∨ k = 3 ∨ k = 4 ∨ k = 5 by omega) with rfl | rfl | rfl | rfl | rfl | rfl <;> rfl) kw20 kw37 kw38 (by decide) (by decide) dX11_init_114 (fun ad' H b49 e1 hb hG => ?_)
  have h_0 := (e1 _ (by decide)).trans h_0
  have h_2 := (e1 _ (by decide)).trans h_2
  have ea : ∀ o ∈ [0], _ = _ := fun o ho => (e1 o (List.mem_cons_of_mem _ (List.mem_cons_of_mem _ (List.mem_cons_of_mem _ (List.mem_cons_of_mem _ (List.mem_cons_of_mem _ (List.mem_cons_of_mem _ (List.mem_cons_of_mem _ (List.mem_cons_of_mem _ (List.mem_cons_of_mem _ (List.mem_cons_of_mem _ (List.mem_cons_of_mem _ (List.mem_cons_of_mem _ (List.mem_cons_of_mem _ (List.mem_cons_of_mem _ (List.mem_cons_of_mem _ (List.mem_cons_of_mem _ (List.mem_cons_of_mem _ (List.mem_cons_of_mem _ (List.mem_cons_of_mem _ (List.mem_cons_of_mem _ (List.mem_cons_of_mem _ (List.mem_cons_of_mem _ (List.mem_cons_of_mem _ (List.mem_cons_of_mem _ (List.mem_cons_of_mem _ (List.mem_cons_of_mem _ (List.mem_cons_of_mem _ (List.mem_cons_of_mem _ (List.mem_cons_of_mem _ (List.mem_cons_of_mem _ (List.mem_cons_of_mem _ (List.mem_cons_of_mem _ (List.mem_cons_of_mem _ (List.mem_cons_of_mem _ (List.mem_cons_of_mem _ (List.mem_cons_of_mem _ (List.mem_cons_of_mem _ (List.mem_cons_of_mem _ (List.mem_cons_of_mem _ (List.mem_cons_of_mem _ (List.mem_cons_of_mem _ (List.mem_cons_of_mem _ (List.mem_cons_of_mem _ (List.mem_cons_of_mem _ (List.mem_cons_of_mem _ (List.mem_cons_of_mem _ (List.mem_cons_of_mem _ (List.mem_cons_of_mem _ (List.mem_cons_of_mem _ ho)))))))))))))))))))))))))))))))))))))))))))))))))).trans (ea o ho)
  have h_75 := hb
  refine lv_dup hC.x hC.b dX11_init_117 rfl ?_
  refine n_init (b := b49) (As := []) (rest := [.ref b49, .int (3 : Int32), .ref bg]) (mc := 4) (ms := 130) hC hX EZ_bl hG hA (z_X3 (sh := shK) (g := 75) rfl rfl rfl rfl rfl (by decide) (by decide) (by decide) (by decide) (by decide) hG.2.2.1 hG.2.2.2).1 (z_X3 (sh := shK) (g := 75) rfl rfl rfl rfl rfl (by decide) (by decide) (by decide) (by decide) (by decide) hG.2.2.1 hG.2.2.2).2 (by rw [← h_75]; exact n_X3 (sh := shK) (g := 75) rfl rfl rfl rfl rfl (by decide) (by decide) (by decide) (by decide) (by decide) hG.1.1 hG.2.2.1 hG.2.2.2 (fun o ho => hA0 _ (hG.1.2 o ho))) kw64 kw65 kw38 kw66 rfl a_X3_init.1 a_X3_init.2 rfl hl.1 ⟨by decide, by decide, by decide, by decide⟩ (Nat.le_of_ble_eq_true rfl) dX11_init_118 (fun ad' H locs e1 hG => ?_)
  have h_0 := (e1 _ (by decide)).trans h_0
  have h_2 := (e1 _ (by decide)).trans h_2
  have h_75 := (e1 _ (by decide)).trans h_75
  have ea : ∀ o ∈ [0], _ = _ := fun o ho => (e1 o (List.mem_cons_of_mem _ (List.mem_cons_of_mem _ (List.mem_cons_of_mem _ (List.mem_cons_of_mem _ (List.mem_cons_of_mem _ (List.mem_cons_of_mem _ (List.mem_cons_of_mem _ (List.mem_cons_of_mem _ (List.mem_cons_of_mem _ (List.mem_cons_of_mem _ (List.mem_cons_of_mem _ (List.mem_cons_of_mem _ (List.mem_cons_of_mem _ (List.mem_cons_of_mem _ (List.mem_cons_of_mem _ (List.mem_cons_of_mem _ (List.mem_cons_of_mem _ (List.mem_cons_of_mem _ (List.mem_cons_of_mem _ (List.mem_cons_of_mem _ (List.mem_cons_of_mem _ (List.mem_cons_of_mem _ (List.mem_cons_of_mem _ (List.mem_cons_of_mem _ (List.mem_cons_of_mem _ (List.mem_cons_of_mem _ (List.mem_cons_of_mem _ (List.mem_cons_of_mem _ (List.mem_cons_of_mem _ (List.mem_cons_of_mem _ (List.mem_cons_of_mem _ (List.mem_cons_of_mem _ (List.mem_cons_of_mem _ (List.mem_cons_of_mem _ (List.mem_cons_of_mem _ (List.mem_cons_of_mem _ (List.mem_cons_of_mem _ (List.mem_cons_of_mem _ (List.mem_cons_of_mem _ (List.mem_cons_of_mem _ (List.mem_cons_of_mem _ (List.mem_cons_of_mem _ (List.mem_cons_of_mem _ (List.mem_cons_of_mem _ (List.mem_cons_of_mem _ (List.mem_cons_of_mem _ (List.mem_cons_of_mem _ (List.mem_cons_of_mem _ (List.mem_cons_of_mem _ (List.mem_cons_of_mem _ ho))))))))))))))))))))))))))))))))))))))))))))))))))).trans (ea o ho)
  generalize hm22 : i_X3 75 mm21 = mm22 at hG
  have c_2 : gR mm22 0 4 = some (2) := by rw [← hm22]; exact (k_X3 (by decide)).trans c_2
  have c_3 : gR mm22 0 9 = some (3) := by rw [← hm22]; exact (k_X3 (by decide)).trans c_3
  refine n_aast (t := 0) (j := 75) hC hG h_2 h_75 (by decide) (by decide) rfl rfl rfl rfl (Or.inl rfl) (by decide) dX11_init_121 (fun H locs hG => ?_)
  generalize hm23 : gsR mm22 2 (ix (3 : Int32)) (some 75) = mm23 at hG
  have c_2 : gR mm23 0 4 = some (2) := by rw [← hm23]; first | exact c_2 | (rw [gR_n (by omega)]; exact c_2)
  have c_3 : gR mm23 0 9 = some (3) := by rw [← hm23]; first | exact c_3 | (rw [gR_n (by omega)]; exact c_3)
  refine lv_iinc (lv' := [(1, .int (4 : Int32)), (0, .ref a0)]) (v := (4 : Int32)) hC.x hC.b dX11_init_122 hl (k := 0) rfl (by decide) (by decide) rfl (fun ls hl => ?_)
  refine lv_goto (tgt := 103) hC.x hC.b dX11_init_125 (by decide) ?_
  refine lv_iload_n hC.x hC.b dX11_init_103 rfl (lv_at hl 0 rfl) ?_
  refine lv_bipush (v := (6 : Int32)) hC.x hC.b dX11_init_104 rfl ?_
  refine lv_icmp_ge (tgt := 128) hC.x hC.b dX11_init_106 (by decide) (fun z => absurd z (by decide)) (fun _ => ?_)
  refine lv_aload_n hC.x hC.b dX11_init_109 rfl (lv_at hl 1 rfl) ?_
  refine n_getr hC hG fu_X11_29_11 h_0 rfl (by decide) rfl rfl c_2 dX11_init_110 ?_
  generalize h_2 : ad' 2 = bg
  refine lv_iload_n hC.x hC.b dX11_init_113 rfl (lv_at hl 0 rfl) ?_
  refine n_new (j := 80) (ty := tyX3) hC hG hA (by decide) rfl (nc2 rfl) rfl inW3 tyX3_ok (fun k hk => by rcases (show k = 0 ∨ k = 1 ∨ k = 2 ∨ k = 3 ∨ k = 4 ∨ k = 5 by omega) with rfl | rfl | rfl | rfl | rfl | rfl <;> rfl) kw20 kw37 kw38 (by decide) (by decide) dX11_init_114 (fun ad' H b54 e1 hb hG => ?_)
  have h_0 := (e1 _ (by decide)).trans h_0
  have h_2 := (e1 _ (by decide)).trans h_2
  have ea : ∀ o ∈ [0], _ = _ := fun o ho => (e1 o (List.mem_cons_of_mem _ (List.mem_cons_of_mem _ (List.mem_cons_of_mem _ (List.mem_cons_of_mem _ (List.mem_cons_of_mem _ (List.mem_cons_of_mem _ (List.mem_cons_of_mem _ (List.mem_cons_of_mem _ (List.mem_cons_of_mem _ (List.mem_cons_of_mem _ (List.mem_cons_of_mem _ (List.mem_cons_of_mem _ (List.mem_cons_of_mem _ (List.mem_cons_of_mem _ (List.mem_cons_of_mem _ (List.mem_cons_of_mem _ (List.mem_cons_of_mem _ (List.mem_cons_of_mem _ (List.mem_cons_of_mem _ (List.mem_cons_of_mem _ (List.mem_cons_of_mem _ (List.mem_cons_of_mem _ (List.mem_cons_of_mem _ (List.mem_cons_of_mem _ (List.mem_cons_of_mem _ (List.mem_cons_of_mem _ (List.mem_cons_of_mem _ (List.mem_cons_of_mem _ (List.mem_cons_of_mem _ (List.mem_cons_of_mem _ (List.mem_cons_of_mem _ (List.mem_cons_of_mem _ (List.mem_cons_of_mem _ (List.mem_cons_of_mem _ (List.mem_cons_of_mem _ (List.mem_cons_of_mem _ (List.mem_cons_of_mem _ (List.mem_cons_of_mem _ (List.mem_cons_of_mem _ (List.mem_cons_of_mem _ (List.mem_cons_of_mem _ (List.mem_cons_of_mem _ (List.mem_cons_of_mem _ (List.mem_cons_of_mem _ (List.mem_cons_of_mem _ (List.mem_cons_of_mem _ (List.mem_cons_of_mem _ (List.mem_cons_of_mem _ (List.mem_cons_of_mem _ (List.mem_cons_of_mem _ (List.mem_cons_of_mem _ (List.mem_cons_of_mem _ (List.mem_cons_of_mem _ (List.mem_cons_of_mem _ ho))))))))))))))))))))))))))))))))))))))))))))))))))))))).trans (ea o ho)
  have h_80 := hb
  refine lv_dup hC.x hC.b dX11_init_117 rfl ?_
  refine n_init (b := b54) (As := []) (rest := [.ref b54, .int (4 : Int32), .ref bg]) (mc := 4) (ms := 130) hC hX EZ_bl hG hA (z_X3 (sh := shK) (g := 80) rfl rfl rfl rfl rfl (by decide) (by decide) (by decide) (by decide) (by decide) hG.2.2.1 hG.2.2.2).1 (z_X3 (sh := shK) (g := 80) rfl rfl rfl rfl rfl (by decide) (by decide) (by decide) (by decide) (by decide) hG.2.2.1 hG.2.2.2).2 (by rw [← h_80]; exact n_X3 (sh := shK) (g := 80) rfl rfl rfl rfl rfl (by decide) (by decide) (by decide) (by decide) (by decide) hG.1.1 hG.2.2.1 hG.2.2.2 (fun o ho => hA0 _ (hG.1.2 o ho))) kw64 kw65 kw38 kw66 rfl a_X3_init.1 a_X3_init.2 rfl hl.1 ⟨by decide, by decide, by decide, by decide⟩ (Nat.le_of_ble_eq_true rfl) dX11_init_118 (fun ad' H locs e1 hG => ?_)
  have h_0 := (e1 _ (by decide)).trans h_0
  have h_2 := (e1 _ (by decide)).trans h_2
  have h_80 := (e1 _ (by decide)).trans h_80
  have ea : ∀ o ∈ [0], _ = _ := fun o ho => (e1 o (List.mem_cons_of_mem _ (List.mem_cons_of_mem _ (List.mem_cons_of_mem _ (List.mem_cons_of_mem _ (List.mem_cons_of_mem _ (List.mem_cons_of_mem _ (List.mem_cons_of_mem _ (List.mem_cons_of_mem _ (List.mem_cons_of_mem _ (List.mem_cons_of_mem _ (List.mem_cons_of_mem _ (List.mem_cons_of_mem _ (List.mem_cons_of_mem _ (List.mem_cons_of_mem _ (List.mem_cons_of_mem _ (List.mem_cons_of_mem _ (List.mem_cons_of_mem _ (List.mem_cons_of_mem _ (List.mem_cons_of_mem _ (List.mem_cons_of_mem _ (List.mem_cons_of_mem _ (List.mem_cons_of_mem _ (List.mem_cons_of_mem _ (List.mem_cons_of_mem _ (List.mem_cons_of_mem _ (List.mem_cons_of_mem _ (List.mem_cons_of_mem _ (List.mem_cons_of_mem _ (List.mem_cons_of_mem _ (List.mem_cons_of_mem _ (List.mem_cons_of_mem _ (List.mem_cons_of_mem _ (List.mem_cons_of_mem _ (List.mem_cons_of_mem _ (List.mem_cons_of_mem _ (List.mem_cons_of_mem _ (List.mem_cons_of_mem _ (List.mem_cons_of_mem _ (List.mem_cons_of_mem _ (List.mem_cons_of_mem _ (List.mem_cons_of_mem _ (List.mem_cons_of_mem _ (List.mem_cons_of_mem _ (List.mem_cons_of_mem _ (List.mem_cons_of_mem _ (List.mem_cons_of_mem _ (List.mem_cons_of_mem _ (List.mem_cons_of_mem _ (List.mem_cons_of_mem _ (List.mem_cons_of_mem _ (List.mem_cons_of_mem _ (List.mem_cons_of_mem _ (List.mem_cons_of_mem _ (List.mem_cons_of_mem _ (List.mem_cons_of_mem _ ho)))))))))))))))))))))))))))))))))))))))))))))))))))))))).trans (ea o ho)
  generalize hm24 : i_X3 80 mm23 = mm24 at hG
  have c_2 : gR mm24 0 4 = some (2) := by rw [← hm24]; exact (k_X3 (by decide)).trans c_2
  have c_3 : gR mm24 0 9 = some (3) := by rw [← hm24]; exact (k_X3 (by decide)).trans c_3
  refine n_aast (t := 0) (j := 80) hC hG h_2 h_80 (by decide) (by decide) rfl rfl rfl rfl (Or.inl rfl) (by decide) dX11_init_121 (fun H locs hG => ?_)
  generalize hm25 : gsR mm24 2 (ix (4 : Int32)) (some 80) = mm25 at hG
  have c_2 : gR mm25 0 4 = some (2) := by rw [← hm25]; first | exact c_2 | (rw [gR_n (by omega)]; exact c_2)
  have c_3 : gR mm25 0 9 = some (3) := by rw [← hm25]; first | exact c_3 | (rw [gR_n (by omega)]; exact c_3)
  refine lv_iinc (lv' := [(1, .int (5 : Int32)), (0, .ref a0)]) (v := (5 : Int32)) hC.x hC.b dX11_init_122 hl (k := 0) rfl (by decide) (by decide) rfl (fun ls hl => ?_)
  refine lv_goto (tgt := 103) hC.x hC.b dX11_init_125 (by decide) ?_
  refine lv_iload_n hC.x hC.b dX11_init_103 rfl (lv_at hl 0 rfl) ?_
  refine lv_bipush (v := (6 : Int32)) hC.x hC.b dX11_init_104 rfl ?_
  refine lv_icmp_ge (tgt := 128) hC.x hC.b dX11_init_106 (by decide) (fun z => absurd z (by decide)) (fun _ => ?_)
  refine lv_aload_n hC.x hC.b dX11_init_109 rfl (lv_at hl 1 rfl) ?_
  refine n_getr hC hG fu_X11_29_11 h_0 rfl (by decide) rfl rfl c_2 dX11_init_110 ?_
  generalize h_2 : ad' 2 = bg
  refine lv_iload_n hC.x hC.b dX11_init_113 rfl (lv_at hl 0 rfl) ?_
  refine n_new (j := 85) (ty := tyX3) hC hG hA (by decide) rfl (nc2 rfl) rfl inW3 tyX3_ok (fun k hk => by rcases (show k = 0 ∨ k = 1 ∨ k = 2 ∨ k = 3 ∨ k = 4 ∨ k = 5 by omega) with rfl | rfl | rfl | rfl | rfl | rfl <;> rfl) kw20 kw37 kw38 (by decide) (by decide) dX11_init_114 (fun ad' H b59 e1 hb hG => ?_)
  have h_0 := (e1 _ (by decide)).trans h_0
  have h_2 := (e1 _ (by decide)).trans h_2
  have ea : ∀ o ∈ [0], _ = _ := fun o ho => (e1 o (List.mem_cons_of_mem _ (List.mem_cons_of_mem _ (List.mem_cons_of_mem _ (List.mem_cons_of_mem _ (List.mem_cons_of_mem _ (List.mem_cons_of_mem _ (List.mem_cons_of_mem _ (List.mem_cons_of_mem _ (List.mem_cons_of_mem _ (List.mem_cons_of_mem _ (List.mem_cons_of_mem _ (List.mem_cons_of_mem _ (List.mem_cons_of_mem _ (List.mem_cons_of_mem _ (List.mem_cons_of_mem _ (List.mem_cons_of_mem _ (List.mem_cons_of_mem _ (List.mem_cons_of_mem _ (List.mem_cons_of_mem _ (List.mem_cons_of_mem _ (List.mem_cons_of_mem _ (List.mem_cons_of_mem _ (List.mem_cons_of_mem _ (List.mem_cons_of_mem _ (List.mem_cons_of_mem _ (List.mem_cons_of_mem _ (List.mem_cons_of_mem _ (List.mem_cons_of_mem _ (List.mem_cons_of_mem _ (List.mem_cons_of_mem _ (List.mem_cons_of_mem _ (List.mem_cons_of_mem _ (List.mem_cons_of_mem _ (List.mem_cons_of_mem _ (List.mem_cons_of_mem _ (List.mem_cons_of_mem _ (List.mem_cons_of_mem _ (List.mem_cons_of_mem _ (List.mem_cons_of_mem _ (List.mem_cons_of_mem _ (List.mem_cons_of_mem _ (List.mem_cons_of_mem _ (List.mem_cons_of_mem _ (List.mem_cons_of_mem _ (List.mem_cons_of_mem _ (List.mem_cons_of_mem _ (List.mem_cons_of_mem _ (List.mem_cons_of_mem _ (List.mem_cons_of_mem _ (List.mem_cons_of_mem _ (List.mem_cons_of_mem _ (List.mem_cons_of_mem _ (List.mem_cons_of_mem _ (List.mem_cons_of_mem _ (List.mem_cons_of_mem _ (List.mem_cons_of_mem _ (List.mem_cons_of_mem _ (List.mem_cons_of_mem _ (List.mem_cons_of_mem _ ho)))))))))))))))))))))))))))))))))))))))))))))))))))))))))))).trans (ea o ho)
  have h_85 := hb
  refine lv_dup hC.x hC.b dX11_init_117 rfl ?_
  refine n_init (b := b59) (As := []) (rest := [.ref b59, .int (5 : Int32), .ref bg]) (mc := 4) (ms := 130) hC hX EZ_bl hG hA (z_X3 (sh := shK) (g := 85) rfl rfl rfl rfl rfl (by decide) (by decide) (by decide) (by decide) (by decide) hG.2.2.1 hG.2.2.2).1 (z_X3 (sh := shK) (g := 85) rfl rfl rfl rfl rfl (by decide) (by decide) (by decide) (by decide) (by decide) hG.2.2.1 hG.2.2.2).2 (by rw [← h_85]; exact n_X3 (sh := shK) (g := 85) rfl rfl rfl rfl rfl (by decide) (by decide) (by decide) (by decide) (by decide) hG.1.1 hG.2.2.1 hG.2.2.2 (fun o ho => hA0 _ (hG.1.2 o ho))) kw64 kw65 kw38 kw66 rfl a_X3_init.1 a_X3_init.2 rfl hl.1 ⟨by decide, by decide, by decide, by decide⟩ (Nat.le_of_ble_eq_true rfl) dX11_init_118 (fun ad' H locs e1 hG => ?_)
  have h_0 := (e1 _ (by decide)).trans h_0
  have h_2 := (e1 _ (by decide)).trans h_2
  have h_85 := (e1 _ (by decide)).trans h_85
  have ea : ∀ o ∈ [0], _ = _ := fun o ho => (e1 o (List.mem_cons_of_mem _ (List.mem_cons_of_mem _ (List.mem_cons_of_mem _ (List.mem_cons_of_mem _ (List.mem_cons_of_mem _ (List.mem_cons_of_mem _ (List.mem_cons_of_mem _ (List.mem_cons_of_mem _ (List.mem_cons_of_mem _ (List.mem_cons_of_mem _ (List.mem_cons_of_mem _ (List.mem_cons_of_mem _ (List.mem_cons_of_mem _ (List.mem_cons_of_mem _ (List.mem_cons_of_mem _ (List.mem_cons_of_mem _ (List.mem_cons_of_mem _ (List.mem_cons_of_mem _ (List.mem_cons_of_mem _ (List.mem_cons_of_mem _ (List.mem_cons_of_mem _ (List.mem_cons_of_mem _ (List.mem_cons_of_mem _ (List.mem_cons_of_mem _ (List.mem_cons_of_mem _ (List.mem_cons_of_mem _ (List.mem_cons_of_mem _ (List.mem_cons_of_mem _ (List.mem_cons_of_mem _ (List.mem_cons_of_mem _ (List.mem_cons_of_mem _ (List.mem_cons_of_mem _ (List.mem_cons_of_mem _ (List.mem_cons_of_mem _ (List.mem_cons_of_mem _ (List.mem_cons_of_mem _ (List.mem_cons_of_mem _ (List.mem_cons_of_mem _ (List.mem_cons_of_mem _ (List.mem_cons_of_mem _ (List.mem_cons_of_mem _ (List.mem_cons_of_mem _ (List.mem_cons_of_mem _ (List.mem_cons_of_mem _ (List.mem_cons_of_mem _ (List.mem_cons_of_mem _ (List.mem_cons_of_mem _ (List.mem_cons_of_mem _ (List.mem_cons_of_mem _ (List.mem_cons_of_mem _ (List.mem_cons_of_mem _ (List.mem_cons_of_mem _ (List.mem_cons_of_mem _ (List.mem_cons_of_mem _ (List.mem_cons_of_mem _ (List.mem_cons_of_mem _ (List.mem_cons_of_mem _ (List.mem_cons_of_mem _ (List.mem_cons_of_mem _ (List.mem_cons_of_mem _ ho))))))))))))))))))))))))))))))))))))))))))))))))))))))))))))).trans (ea o ho)
  generalize hm26 : i_X3 85 mm25 = mm26 at hG
  have c_2 : gR mm26 0 4 = some (2) := by rw [← hm26]; exact (k_X3 (by decide)).trans c_2
  have c_3 : gR mm26 0 9 = some (3) := by rw [← hm26]; exact (k_X3 (by decide)).trans c_3
  refine n_aast (t := 0) (j := 85) hC hG h_2 h_85 (by decide) (by decide) rfl rfl rfl rfl (Or.inl rfl) (by decide) dX11_init_121 (fun H locs hG => ?_)
  generalize hm27 : gsR mm26 2 (ix (5 : Int32)) (some 85) = mm27 at hG
  have c_2 : gR mm27 0 4 = some (2) := by rw [← hm27]; first | exact c_2 | (rw [gR_n (by omega)]; exact c_2)
  have c_3 : gR mm27 0 9 = some (3) := by rw [← hm27]; first | exact c_3 | (rw [gR_n (by omega)]; exact c_3)
  refine lv_iinc (lv' := [(1, .int (6 : Int32)), (0, .ref a0)]) (v := (6 : Int32)) hC.x hC.b dX11_init_122 hl (k := 0) rfl (by decide) (by decide) rfl (fun ls hl => ?_)
  refine lv_goto (tgt := 103) hC.x hC.b dX11_init_125 (by decide) ?_
  refine lv_iload_n hC.x hC.b dX11_init_103 rfl (lv_at hl 0 rfl) ?_
  refine lv_bipush (v := (6 : Int32)) hC.x hC.b dX11_init_104 rfl ?_
  refine lv_icmp_ge (tgt := 128) hC.x hC.b dX11_init_106 (by decide) (fun _ => ?_) (fun z => absurd (by decide) z)
  refine lv_iconst (v := (0 : Int32)) hC.x hC.b dX11_init_128 rfl ?_
  refine lv_istore_n (lv' := [(1, .int (0 : Int32)), (0, .ref a0)]) hC.x hC.b dX11_init_129 rfl hl (by decide) rfl (fun ls hl => ?_)
  refine lv_iload_n hC.x hC.b dX11_init_130 rfl (lv_at hl 0 rfl) ?_
  refine lv_bipush (v := (6 : Int32)) hC.x hC.b dX11_init_131 rfl ?_
  refine lv_icmp_ge (tgt := 149) hC.x hC.b dX11_init_133 (by decide) (fun z => absurd z (by decide)) (fun _ => ?_)
  refine lv_aload_n hC.x hC.b dX11_init_136 rfl (lv_at hl 1 rfl) ?_
  refine n_getr hC hG fu_X11_47_11 h_0 rfl (by decide) rfl rfl c_3 dX11_init_137 ?_
  generalize h_3 : ad' 3 = bg
  refine lv_iload_n hC.x hC.b dX11_init_140 rfl (lv_at hl 0 rfl) ?_
  refine lv_iconst (v := (-1 : Int32)) hC.x hC.b dX11_init_141 rfl ?_
  refine n_iast hC hG h_3 (by decide) rfl (by decide) dX11_init_142 (fun H locs hG => ?_)
  generalize hm28 : gsI mm27 3 (ix (0 : Int32)) (-1 : Int32) = mm28 at hG
  have c_2 : gR mm28 0 4 = some (2) := by rw [← hm28]; first | exact c_2 | (rw [gR_n (by omega)]; exact c_2)
  have c_3 : gR mm28 0 9 = some (3) := by rw [← hm28]; first | exact c_3 | (rw [gR_n (by omega)]; exact c_3)
  refine lv_iinc (lv' := [(1, .int (1 : Int32)), (0, .ref a0)]) (v := (1 : Int32)) hC.x hC.b dX11_init_143 hl (k := 0) rfl (by decide) (by decide) rfl (fun ls hl => ?_)
  refine lv_goto (tgt := 130) hC.x hC.b dX11_init_146 (by decide) ?_
  refine lv_iload_n hC.x hC.b dX11_init_130 rfl (lv_at hl 0 rfl) ?_
  refine lv_bipush (v := (6 : Int32)) hC.x hC.b dX11_init_131 rfl ?_
  refine lv_icmp_ge (tgt := 149) hC.x hC.b dX11_init_133 (by decide) (fun z => absurd z (by decide)) (fun _ => ?_)
  refine lv_aload_n hC.x hC.b dX11_init_136 rfl (lv_at hl 1 rfl) ?_
  refine n_getr hC hG fu_X11_47_11 h_0 rfl (by decide) rfl rfl c_3 dX11_init_137 ?_
  generalize h_3 : ad' 3 = bg
  refine lv_iload_n hC.x hC.b dX11_init_140 rfl (lv_at hl 0 rfl) ?_
  refine lv_iconst (v := (-1 : Int32)) hC.x hC.b dX11_init_141 rfl ?_
  refine n_iast hC hG h_3 (by decide) rfl (by decide) dX11_init_142 (fun H locs hG => ?_)
  generalize hm29 : gsI mm28 3 (ix (1 : Int32)) (-1 : Int32) = mm29 at hG
  have c_2 : gR mm29 0 4 = some (2) := by rw [← hm29]; first | exact c_2 | (rw [gR_n (by omega)]; exact c_2)
  have c_3 : gR mm29 0 9 = some (3) := by rw [← hm29]; first | exact c_3 | (rw [gR_n (by omega)]; exact c_3)
  refine lv_iinc (lv' := [(1, .int (2 : Int32)), (0, .ref a0)]) (v := (2 : Int32)) hC.x hC.b dX11_init_143 hl (k := 0) rfl (by decide) (by decide) rfl (fun ls hl => ?_)
  refine lv_goto (tgt := 130) hC.x hC.b dX11_init_146 (by decide) ?_
  refine lv_iload_n hC.x hC.b dX11_init_130 rfl (lv_at hl 0 rfl) ?_
  refine lv_bipush (v := (6 : Int32)) hC.x hC.b dX11_init_131 rfl ?_
  refine lv_icmp_ge (tgt := 149) hC.x hC.b dX11_init_133 (by decide) (fun z => absurd z (by decide)) (fun _ => ?_)
  refine lv_aload_n hC.x hC.b dX11_init_136 rfl (lv_at hl 1 rfl) ?_
  refine n_getr hC hG fu_X11_47_11 h_0 rfl (by decide) rfl rfl c_3 dX11_init_137 ?_
  generalize h_3 : ad' 3 = bg
  refine lv_iload_n hC.x hC.b dX11_init_140 rfl (lv_at hl 0 rfl) ?_
  refine lv_iconst (v := (-1 : Int32)) hC.x hC.b dX11_init_141 rfl ?_
  refine n_iast hC hG h_3 (by decide) rfl (by decide) dX11_init_142 (fun H locs hG => ?_)
  generalize hm30 : gsI mm29 3 (ix (2 : Int32)) (-1 : Int32) = mm30 at hG
  have c_2 : gR mm30 0 4 = some (2) := by rw [← hm30]; first | exact c_2 | (rw [gR_n (by omega)]; exact c_2)
  have c_3 : gR mm30 0 9 = some (3) := by rw [← hm30]; first | exact c_3 | (rw [gR_n (by omega)]; exact c_3)
  refine lv_iinc (lv' := [(1, .int (3 : Int32)), (0, .ref a0)]) (v := (3 : Int32)) hC.x hC.b dX11_init_143 hl (k := 0) rfl (by decide) (by decide) rfl (fun ls hl => ?_)
  refine lv_goto (tgt := 130) hC.x hC.b dX11_init_146 (by decide) ?_
  refine lv_iload_n hC.x hC.b dX11_init_130 rfl (lv_at hl 0 rfl) ?_
  refine lv_bipush (v := (6 : Int32)) hC.x hC.b dX11_init_131 rfl ?_
  refine lv_icmp_ge (tgt := 149) hC.x hC.b dX11_init_133 (by decide) (fun z => absurd z (by decide)) (fun _ => ?_)
  refine lv_aload_n hC.x hC.b dX11_init_136 rfl (lv_at hl 1 rfl) ?_
  refine n_getr hC hG fu_X11_47_11 h_0 rfl (by decide) rfl rfl c_3 dX11_init_137 ?_
  generalize h_3 : ad' 3 = bg
  refine lv_iload_n hC.x hC.b dX11_init_140 rfl (lv_at hl 0 rfl) ?_
  refine lv_iconst (v := (-1 : Int32)) hC.x hC.b dX11_init_141 rfl ?_
  refine n_iast hC hG h_3 (by decide) rfl (by decide) dX11_init_142 (fun H locs hG => ?_)
  generalize hm31 : gsI mm30 3 (ix (3 : Int32)) (-1 : Int32) = mm31 at hG
  have c_2 : gR mm31 0 4 = some (2) := by rw [← hm31]; first | exact c_2 | (rw [gR_n (by omega)]; exact c_2)
  have c_3 : gR mm31 0 9 = some (3) := by rw [← hm31]; first | exact c_3 | (rw [gR_n (by omega)]; exact c_3)
  refine lv_iinc (lv' := [(1, .int (4 : Int32)), (0, .ref a0)]) (v := (4 : Int32)) hC.x hC.b dX11_init_143 hl (k := 0) rfl (by decide) (by decide) rfl (fun ls hl => ?_)
  refine lv_goto (tgt := 130) hC.x hC.b dX11_init_146 (by decide) ?_
  refine lv_iload_n hC.x hC.b dX11_init_130 rfl (lv_at hl 0 rfl) ?_
  refine lv_bipush (v := (6 : Int32)) hC.x hC.b dX11_init_131 rfl ?_
  refine lv_icmp_ge (tgt := 149) hC.x hC.b dX11_init_133 (by decide) (fun z => absurd z (by decide)) (fun _ => ?_)
  refine lv_aload_n hC.x hC.b dX11_init_136 rfl (lv_at hl 1 rfl) ?_
  refine n_getr hC hG fu_X11_47_11 h_0 rfl (by decide) rfl rfl c_3 dX11_init_137 ?_
  generalize h_3 : ad' 3 = bg
  refine lv_iload_n hC.x hC.b dX11_init_140 rfl (lv_at hl 0 rfl) ?_
  refine lv_iconst (v := (-1 : Int32)) hC.x hC.b dX11_init_141 rfl ?_
  refine n_iast hC hG h_3 (by decide) rfl (by decide) dX11_init_142 (fun H locs hG => ?_)
  generalize hm32 : gsI mm31 3 (ix (4 : Int32)) (-1 : Int32) = mm32 at hG
  have c_2 : gR mm32 0 4 = some (2) := by rw [← hm32]; first | exact c_2 | (rw [gR_n (by omega)]; exact c_2)
  have c_3 : gR mm32 0 9 = some (3) := by rw [← hm32]; first | exact c_3 | (rw [gR_n (by omega)]; exact c_3)
  refine lv_iinc (lv' := [(1, .int (5 : Int32)), (0, .ref a0)]) (v := (5 : Int32)) hC.x hC.b dX11_init_143 hl (k := 0) rfl (by decide) (by decide) rfl (fun ls hl => ?_)
  refine lv_goto (tgt := 130) hC.x hC.b dX11_init_146 (by decide) ?_
  refine lv_iload_n hC.x hC.b dX11_init_130 rfl (lv_at hl 0 rfl) ?_
  refine lv_bipush (v := (6 : Int32)) hC.x hC.b dX11_init_131 rfl ?_
  refine lv_icmp_ge (tgt := 149) hC.x hC.b dX11_init_133 (by decide) (fun z => absurd z (by decide)) (fun _ => ?_)
  refine lv_aload_n hC.x hC.b dX11_init_136 rfl (lv_at hl 1 rfl) ?_
  refine n_getr hC hG fu_X11_47_11 h_0 rfl (by decide) rfl rfl c_3 dX11_init_137 ?_
  generalize h_3 : ad' 3 = bg
  refine lv_iload_n hC.x hC.b dX11_init_140 rfl (lv_at hl 0 rfl) ?_
  refine lv_iconst (v := (-1 : Int32)) hC.x hC.b dX11_init_141 rfl ?_
  refine n_iast hC hG h_3 (by decide) rfl (by decide) dX11_init_142 (fun H locs hG => ?_)
  generalize hm33 : gsI mm32 3 (ix (5 : Int32)) (-1 : Int32) = mm33 at hG
  have c_2 : gR mm33 0 4 = some (2) := by rw [← hm33]; first | exact c_2 | (rw [gR_n (by omega)]; exact c_2)
  have c_3 : gR mm33 0 9 = some (3) := by rw [← hm33]; first | exact c_3 | (rw [gR_n (by omega)]; exact c_3)
  refine lv_iinc (lv' := [(1, .int (6 : Int32)), (0, .ref a0)]) (v := (6 : Int32)) hC.x hC.b dX11_init_143 hl (k := 0) rfl (by decide) (by decide) rfl (fun ls hl => ?_)
  refine lv_goto (tgt := 130) hC.x hC.b dX11_init_146 (by decide) ?_
  refine lv_iload_n hC.x hC.b dX11_init_130 rfl (lv_at hl 0 rfl) ?_
  refine lv_bipush (v := (6 : Int32)) hC.x hC.b dX11_init_131 rfl ?_
  refine lv_icmp_ge (tgt := 149) hC.x hC.b dX11_init_133 (by decide) (fun _ => ?_) (fun z => absurd (by decide) z)
  refine W.widen (k := 64) (n := 2060) (by decide) (by decide) ?_
  subst hm1 hm2 hm3 hm4 hm5 hm6 hm7 hm8 hm9 hm10 hm11 hm12 hm13 hm14 hm15 hm16 hm17 hm18 hm19 hm20 hm21 hm22 hm23 hm24 hm25 hm26 hm27 hm28 hm29 hm30 hm31 hm32 hm33
  exact W.vret hC.x hC.b hr (fun t ht hW => ⟨⟨ad', ea, rfl, by rw [ht]; exact hG.2.1.1, hG.1⟩, hG.2.1.2.F ht⟩) hG.2.1.2.2.2 dX11_init_149

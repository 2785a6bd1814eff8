/-! constructors: what they make -/
theorem a_X3_init : noMH yX3_init.cls ∧ arity yX3_init.desc 0 := by decide +kernel
theorem a_X2_init : noMH yX2_init.cls ∧ arity yX2_init.desc 0 := by decide +kernel
theorem a_X4_init : noMH yX4_init.cls ∧ arity yX4_init.desc 0 := by decide +kernel
theorem a_X10_init : noMH yX10_init.cls ∧ arity yX10_init.desc 0 := by decide +kernel
theorem pu_X3_9_3 : gPu RX3 9 3 1 "[I" := ⟨RX3, TX3, 6, tyX3, "OnTiptoe$Night", rfl, inW3, tyX3_ok, nmX3, by decide, kw68, Or.inl rfl, Or.inr ⟨rfl, rfl⟩, rfl⟩
theorem pu_X3_15_3 : gPu RX3 15 3 2 "[I" := ⟨RX3, TX3, 6, tyX3, "OnTiptoe$Night", rfl, inW3, tyX3_ok, nmX3, by decide, kw69, Or.inl rfl, Or.inr ⟨rfl, rfl⟩, rfl⟩
theorem pu_X3_18_3 : gPu RX3 18 3 3 "[I" := ⟨RX3, TX3, 6, tyX3, "OnTiptoe$Night", rfl, inW3, tyX3_ok, nmX3, by decide, kw70, Or.inl rfl, Or.inr ⟨rfl, rfl⟩, rfl⟩
theorem pu_X3_21_3 : gPu RX3 21 3 4 "[I" := ⟨RX3, TX3, 6, tyX3, "OnTiptoe$Night", rfl, inW3, tyX3_ok, nmX3, by decide, kw71, Or.inl rfl, Or.inr ⟨rfl, rfl⟩, rfl⟩
theorem pu_X4_9_4 : gPu RX4 9 4 0 "[B" := ⟨RX4, TX4, 4, tyX4, "OnTiptoe$Reader", rfl, inW4, tyX4_ok, nmX4, by decide, kw56, Or.inl rfl, Or.inr ⟨rfl, rfl⟩, rfl⟩
theorem pu_X10_9_10 : gPu RX10 9 10 0 "[I" := ⟨RX10, TX10, 10, tyX10, "OnTiptoe$Ways", rfl, inW10, tyX10_ok, nmX10, by decide, kw61, Or.inl rfl, Or.inr ⟨rfl, rfl⟩, rfl⟩
theorem pu_X10_15_10 : gPu RX10 15 10 1 "[I" := ⟨RX10, TX10, 10, tyX10, "OnTiptoe$Ways", rfl, inW10, tyX10_ok, nmX10, by decide, kw62, Or.inl rfl, Or.inr ⟨rfl, rfl⟩, rfl⟩
theorem pu_X10_18_10 : gPu RX10 18 10 4 "[I" := ⟨RX10, TX10, 10, tyX10, "OnTiptoe$Ways", rfl, inW10, tyX10_ok, nmX10, by decide, kw63, Or.inl rfl, Or.inr ⟨rfl, rfl⟩, rfl⟩
theorem pu_X2_9_2 : gPu RX2 9 2 0 "[I" := ⟨RX2, TX2, 17, tyX2, "OnTiptoe$House", rfl, inW2, tyX2_ok, nmX2, by decide, kw43, Or.inl rfl, Or.inr ⟨rfl, rfl⟩, rfl⟩
theorem pu_X2_15_2 : gPu RX2 15 2 2 "I" := ⟨RX2, TX2, 17, tyX2, "OnTiptoe$House", rfl, inW2, tyX2_ok, nmX2, by decide, kw44, Or.inl rfl, Or.inl rfl, rfl⟩
theorem pu_X2_19_2 : gPu RX2 19 2 7 "[I" := ⟨RX2, TX2, 17, tyX2, "OnTiptoe$House", rfl, inW2, tyX2_ok, nmX2, by decide, kw45, Or.inl rfl, Or.inr ⟨rfl, rfl⟩, rfl⟩
theorem pu_X2_22_2 : gPu RX2 22 2 9 "[I" := ⟨RX2, TX2, 17, tyX2, "OnTiptoe$House", rfl, inW2, tyX2_ok, nmX2, by decide, kw46, Or.inl rfl, Or.inr ⟨rfl, rfl⟩, rfl⟩
theorem pu_X2_25_2 : gPu RX2 25 2 10 "[I" := ⟨RX2, TX2, 17, tyX2, "OnTiptoe$House", rfl, inW2, tyX2_ok, nmX2, by decide, kw47, Or.inl rfl, Or.inr ⟨rfl, rfl⟩, rfl⟩
theorem pu_X2_28_2 : gPu RX2 28 2 11 "[I" := ⟨RX2, TX2, 17, tyX2, "OnTiptoe$House", rfl, inW2, tyX2_ok, nmX2, by decide, kw48, Or.inl rfl, Or.inr ⟨rfl, rfl⟩, rfl⟩
theorem pu_X2_31_2 : gPu RX2 31 2 13 "[I" := ⟨RX2, TX2, 17, tyX2, "OnTiptoe$House", rfl, inW2, tyX2_ok, nmX2, by decide, kw49, Or.inl rfl, Or.inr ⟨rfl, rfl⟩, rfl⟩
theorem pu_X2_34_2 : gPu RX2 34 2 16 "[I" := ⟨RX2, TX2, 17, tyX2, "OnTiptoe$House", rfl, inW2, tyX2_ok, nmX2, by decide, kw50, Or.inl rfl, Or.inr ⟨rfl, rfl⟩, rfl⟩
theorem fu_X2_9_2 : gFl RX2 9 2 0 := ⟨RX2, TX2, 17, "OnTiptoe$House", rfl, inW2, by decide, kw43, Or.inl rfl⟩
def i_X3 (g : Nat) (mem : gMem) : gMem := (gsR (gsR (gsR (gsR mem g 1 (some (g + 1))) g 2 (some (g + 2))) g 3 (some (g + 3))) g 4 (some (g + 4)))
theorem k_X3 {g : Nat} {mem : gMem} {o k : Nat} (ho : o ≠ g) : gR (i_X3 g mem) o k = gR mem o k := by
  unfold i_X3
  simp (disch := omega) only [gR_sI, gR_n]
theorem z_X3 {sh : Nat → gShp} {L : List Nat} {mem : gMem} {g : Nat} (s_g : sh g = (0, 3, [0, 1, 1, 1, 1, 0])) (s_gp1 : sh (g + 1) = (1, 10, [])) (s_gp2 : sh (g + 2) = (1, 10, [])) (s_gp3 : sh (g + 3) = (1, 10, [])) (s_gp4 : sh (g + 4) = (1, 100, [])) (m_g : g ∈ L) (f_gp1 : g + 1 ∉ L) (f_gp2 : g + 2 ∉ L) (f_gp3 : g + 3 ∉ L) (f_gp4 : g + 4 ∉ L) (hz : gZ L mem) (hc : gCl sh L mem) : gZ ((g + 4) :: (g + 3) :: (g + 2) :: (g + 1) :: L) (i_X3 g mem) ∧ gCl sh ((g + 4) :: (g + 3) :: (g + 2) :: (g + 1) :: L) (i_X3 g mem) := by
  have hc := gCl_up (j := g + 1) hc hz f_gp1 (by rw [s_gp1]; decide)
  have hz := gZ_up (j := g + 1) hz
  have m_gp1 := List.mem_cons_self (a := g + 1) (l := L)
  have m_g := List.mem_cons_of_mem (g + 1) m_g
  have f_gp2 : g + 2 ∉ (g + 1) :: L := fun z => (List.mem_cons.mp z).elim (fun z => by omega) f_gp2
  have f_gp3 : g + 3 ∉ (g + 1) :: L := fun z => (List.mem_cons.mp z).elim (fun z => by omega) f_gp3
  have f_gp4 : g + 4 ∉ (g + 1) :: L := fun z => (List.mem_cons.mp z).elim (fun z => by omega) f_gp4
  have hz := gZ_sR (o := g) (k := 1) (v := some (g + 1)) hz m_g
  have hc := gCl_sR (o := g) (k := 1) (v := some (g + 1)) hc (fun b hb => by cases hb; exact m_gp1)
  have hc := gCl_up (j := g + 2) hc hz f_gp2 (by rw [s_gp2]; decide)
  have hz := gZ_up (j := g + 2) hz
  have m_gp2 := List.mem_cons_self (a := g + 2) (l := (g + 1) :: L)
  have m_g := List.mem_cons_of_mem (g + 2) m_g
  have m_gp1 := List.mem_cons_of_mem (g + 2) m_gp1
  have f_gp3 : g + 3 ∉ (g + 2) :: (g + 1) :: L := fun z => (List.mem_cons.mp z).elim (fun z => by omega) f_gp3
  have f_gp4 : g + 4 ∉ (g + 2) :: (g + 1) :: L := fun z => (List.mem_cons.mp z).elim (fun z => by omega) f_gp4
  have hz := gZ_sR (o := g) (k := 2) (v := some (g + 2)) hz m_g
  have hc := gCl_sR (o := g) (k := 2) (v := some (g + 2)) hc (fun b hb => by cases hb; exact m_gp2)
  have hc := gCl_up (j := g + 3) hc hz f_gp3 (by rw [s_gp3]; decide)
  have hz := gZ_up (j := g + 3) hz
  have m_gp3 := List.mem_cons_self (a := g + 3) (l := (g + 2) :: (g + 1) :: L)
  have m_g := List.mem_cons_of_mem (g + 3) m_g
  have m_gp1 := List.mem_cons_of_mem (g + 3) m_gp1
  have m_gp2 := List.mem_cons_of_mem (g + 3) m_gp2
  have f_gp4 : g + 4 ∉ (g + 3) :: (g + 2) :: (g + 1) :: L := fun z => (List.mem_cons.mp z).elim (fun z => by omega) f_gp4
  have hz := gZ_sR (o := g) (k := 3) (v := some (g + 3)) hz m_g
  have hc := gCl_sR (o := g) (k := 3) (v := some (g + 3)) hc (fun b hb => by cases hb; exact m_gp3)
  have hc := gCl_up (j := g + 4) hc hz f_gp4 (by rw [s_gp4]; decide)
  have hz := gZ_up (j := g + 4) hz
  have m_gp4 := List.mem_cons_self (a := g + 4) (l := (g + 3) :: (g + 2) :: (g + 1) :: L)
  have m_g := List.mem_cons_of_mem (g + 4) m_g
  have m_gp1 := List.mem_cons_of_mem (g + 4) m_gp1
  have m_gp2 := List.mem_cons_of_mem (g + 4) m_gp2
  have m_gp3 := List.mem_cons_of_mem (g + 4) m_gp3
  have hz := gZ_sR (o := g) (k := 4) (v := some (g + 4)) hz m_g
  have hc := gCl_sR (o := g) (k := 4) (v := some (g + 4)) hc (fun b hb => by cases hb; exact m_gp4)
  exact ⟨hz, hc⟩
theorem n_X3 {l : Launch} {sz0 : Nat} {adK adV : Nat → Nat} {D : va_G} {cy : Nat → ClassId} {sh : Nat → gShp} {ad : Nat → Nat} {L : List Nat} {mem : gMem} {g : Nat} (s_g : sh g = (0, 3, [0, 1, 1, 1, 1, 0])) (s_gp1 : sh (g + 1) = (1, 10, [])) (s_gp2 : sh (g + 2) = (1, 10, [])) (s_gp3 : sh (g + 3) = (1, 10, [])) (s_gp4 : sh (g + 4) = (1, 100, [])) (m_g : g ∈ L) (f_gp1 : g + 1 ∉ L) (f_gp2 : g + 2 ∉ L) (f_gp3 : g + 3 ∉ L) (f_gp4 : g + 4 ∉ L) (hk : gOk ad L) (hz : gZ L mem) (hc : gCl sh L mem) (h0L : ∀ o ∈ L, sz0 ≤ ad o) : gNew l yX3_init cX3_init 1 none 1 12 4 130 (EZ sz0 adK adV) D cy sh sh ad L ((g + 4) :: (g + 3) :: (g + 2) :: (g + 1) :: L) [.ref (ad g)] mem (i_X3 g mem) (fun _ => none) := by
  refine n_start (own := RX3) rfl rfl hk hz hc (fun sz s hs hEs => EZ_XN h0L hs hEs) (Nat.le_of_ble_eq_true rfl) (fun p e s m args below meth c R Q A ha hR hAe hA hQ hEs hC hin hr hX H locs ls hG hl => ?_)
  have hA0 : ∀ q, A q → sz0 ≤ q := by rw [hAe]; exact aA_ge h0L hEs.1
  subst hR; subst hAe; subst hQ
  have hlocks := hC.lk
  have hl : lv_has ls 1 [(0, .ref (ad g))] := hl
  obtain ⟨a0, h_g⟩ : ∃ a, ad g = a := ⟨_, rfl⟩
  rw [h_g] at hl
  have ea : ∀ o ∈ L, ad o = ad o := fun _ _ => rfl
  refine lv_aload_n hC.x hC.b dX3_init_0 rfl (lv_at hl 0 rfl) ?_
  refine n_obj hC hl.1 kw67 ⟨by decide, by decide⟩ dX3_init_1 ?_
  refine lv_aload_n hC.x hC.b dX3_init_4 rfl (lv_at hl 0 rfl) ?_
  refine lv_bipush (v := (10 : Int32)) hC.x hC.b dX3_init_5 rfl ?_
  refine n_newI (j := g + 1) (N := 10) hC hG hA f_gp1 s_gp1 kw30 rfl (by decide) (by decide) (by decide) dX3_init_7 (fun ad' H b0 e1 hb hG => ?_)
  have h_g := (e1 _ m_g).trans h_g
  have m_g := List.mem_cons_of_mem (g + 1) m_g
  have m_gp1 := List.mem_cons_self (a := g + 1) (l := L)
  have f_gp2 : g + 2 ∉ (g + 1) :: L := fun z => (List.mem_cons.mp z).elim (fun z => by omega) f_gp2
  have f_gp3 : g + 3 ∉ (g + 1) :: L := fun z => (List.mem_cons.mp z).elim (fun z => by omega) f_gp3
  have f_gp4 : g + 4 ∉ (g + 1) :: L := fun z => (List.mem_cons.mp z).elim (fun z => by omega) f_gp4
  have ea : ∀ o ∈ L, _ = _ := fun o ho => (e1 o ho).trans (ea o ho)
  have h_gp1 := hb
  refine n_putr (j := g + 1) hC hin hG pu_X3_9_3 h_g h_gp1 m_gp1 m_g s_g rfl (ty := (.array .int)) (by decide +kernel) (fun q => ⟨rfl, rfl⟩) dX3_init_9 (fun H locs hG => ?_)
  generalize hm1 : gsR mem g 1 (some (g + 1)) = mm1 at hG
  refine lv_aload_n hC.x hC.b dX3_init_12 rfl (lv_at hl 0 rfl) ?_
  refine lv_bipush (v := (10 : Int32)) hC.x hC.b dX3_init_13 rfl ?_
  refine n_newI (j := g + 2) (N := 10) hC hG hA f_gp2 s_gp2 kw30 rfl (by decide) (by decide) (by decide) dX3_init_15 (fun ad' H b1 e1 hb hG => ?_)
  have h_g := (e1 _ m_g).trans h_g
  have m_g := List.mem_cons_of_mem (g + 2) m_g
  have m_gp1 := List.mem_cons_of_mem (g + 2) m_gp1
  have m_gp2 := List.mem_cons_self (a := g + 2) (l := (g + 1) :: L)
  have f_gp3 : g + 3 ∉ (g + 2) :: (g + 1) :: L := fun z => (List.mem_cons.mp z).elim (fun z => by omega) f_gp3
  have f_gp4 : g + 4 ∉ (g + 2) :: (g + 1) :: L := fun z => (List.mem_cons.mp z).elim (fun z => by omega) f_gp4
  have ea : ∀ o ∈ L, _ = _ := fun o ho => (e1 o (List.mem_cons_of_mem _ ho)).trans (ea o ho)
  have h_gp2 := hb
  refine n_putr (j := g + 2) hC hin hG pu_X3_15_3 h_g h_gp2 m_gp2 m_g s_g rfl (ty := (.array .int)) (by decide +kernel) (fun q => ⟨rfl, rfl⟩) dX3_init_17 (fun H locs hG => ?_)
  generalize hm2 : gsR mm1 g 2 (some (g + 2)) = mm2 at hG
  refine lv_aload_n hC.x hC.b dX3_init_20 rfl (lv_at hl 0 rfl) ?_
  refine lv_bipush (v := (10 : Int32)) hC.x hC.b dX3_init_21 rfl ?_
  refine n_newI (j := g + 3) (N := 10) hC hG hA f_gp3 s_gp3 kw30 rfl (by decide) (by decide) (by decide) dX3_init_23 (fun ad' H b2 e1 hb hG => ?_)
  have h_g := (e1 _ m_g).trans h_g
  have m_g := List.mem_cons_of_mem (g + 3) m_g
  have m_gp1 := List.mem_cons_of_mem (g + 3) m_gp1
  have m_gp2 := List.mem_cons_of_mem (g + 3) m_gp2
  have m_gp3 := List.mem_cons_self (a := g + 3) (l := (g + 2) :: (g + 1) :: L)
  have f_gp4 : g + 4 ∉ (g + 3) :: (g + 2) :: (g + 1) :: L := fun z => (List.mem_cons.mp z).elim (fun z => by omega) f_gp4
  have ea : ∀ o ∈ L, _ = _ := fun o ho => (e1 o (List.mem_cons_of_mem _ (List.mem_cons_of_mem _ ho))).trans (ea o ho)
  have h_gp3 := hb
  refine n_putr (j := g + 3) hC hin hG pu_X3_18_3 h_g h_gp3 m_gp3 m_g s_g rfl (ty := (.array .int)) (by decide +kernel) (fun q => ⟨rfl, rfl⟩) dX3_init_25 (fun H locs hG => ?_)
  generalize hm3 : gsR mm2 g 3 (some (g + 3)) = mm3 at hG
  refine lv_aload_n hC.x hC.b dX3_init_28 rfl (lv_at hl 0 rfl) ?_
  refine lv_bipush (v := (100 : Int32)) hC.x hC.b dX3_init_29 rfl ?_
  refine n_newI (j := g + 4) (N := 100) hC hG hA f_gp4 s_gp4 kw30 rfl (by decide) (by decide) (by decide) dX3_init_31 (fun ad' H b3 e1 hb hG => ?_)
  have h_g := (e1 _ m_g).trans h_g
  have m_g := List.mem_cons_of_mem (g + 4) m_g
  have m_gp1 := List.mem_cons_of_mem (g + 4) m_gp1
  have m_gp2 := List.mem_cons_of_mem (g + 4) m_gp2
  have m_gp3 := List.mem_cons_of_mem (g + 4) m_gp3
  have m_gp4 := List.mem_cons_self (a := g + 4) (l := (g + 3) :: (g + 2) :: (g + 1) :: L)
  have ea : ∀ o ∈ L, _ = _ := fun o ho => (e1 o (List.mem_cons_of_mem _ (List.mem_cons_of_mem _ (List.mem_cons_of_mem _ ho)))).trans (ea o ho)
  have h_gp4 := hb
  refine n_putr (j := g + 4) hC hin hG pu_X3_21_3 h_g h_gp4 m_gp4 m_g s_g rfl (ty := (.array .int)) (by decide +kernel) (fun q => ⟨rfl, rfl⟩) dX3_init_33 (fun H locs hG => ?_)
  generalize hm4 : gsR mm3 g 4 (some (g + 4)) = mm4 at hG
  refine W.widen (k := 4) (n := 130) (by decide) (by decide) ?_
  subst hm1 hm2 hm3 hm4
  exact W.vret hC.x hC.b hr (fun t ht hW => ⟨⟨ad', ea, rfl, by rw [ht]; exact hG.2.1.1, hG.1⟩, hG.2.1.2.F ht⟩) hG.2.1.2.2.2 dX3_init_36
def i_X4 (mem : gMem) : gMem := (gsR mem 30 0 (some 31))
theorem k_X4 {mem : gMem} {o k : Nat} (ho : o ≠ 30) : gR (i_X4 mem) o k = gR mem o k := by
  unfold i_X4
  simp (disch := omega) only [gR_sI, gR_n]
theorem z_X4 {sh : Nat → gShp} {L : List Nat} {mem : gMem}  (s_30 : sh 30 = (0, 4, [1, 0, 0, 1])) (s_31 : sh (31) = (2, 100, [])) (m_30 : 30 ∈ L) (f_31 : 31 ∉ L) (hz : gZ L mem) (hc : gCl sh L mem) : gZ (31 :: L) (i_X4 mem) ∧ gCl sh (31 :: L) (i_X4 mem) := by
  have hc := gCl_up (j := 31) hc hz f_31 (by rw [s_31]; decide)
  have hz := gZ_up (j := 31) hz
  have m_31 := List.mem_cons_self (a := 31) (l := L)
  have m_30 := List.mem_cons_of_mem (31) m_30
  have hz := gZ_sR (o := 30) (k := 0) (v := some 31) hz m_30
  have hc := gCl_sR (o := 30) (k := 0) (v := some 31) hc (fun b hb => by cases hb; exact m_31)
  exact ⟨hz, hc⟩
theorem n_X4 {l : Launch} {sz0 : Nat} {adK adV : Nat → Nat} {D : va_G} {cy : Nat → ClassId} {sh : Nat → gShp} {ad : Nat → Nat} {L : List Nat} {mem : gMem}  (s_30 : sh 30 = (0, 4, [1, 0, 0, 1])) (s_31 : sh (31) = (2, 100, [])) (m_30 : 30 ∈ L) (f_31 : 31 ∉ L) (hk : gOk ad L) (hz : gZ L mem) (hc : gCl sh L mem) (h0L : ∀ o ∈ L, sz0 ≤ ad o) : gNew l yX4_init cX4_init 1 none 1 12 1 100 (EZ sz0 adK adV) D cy sh sh ad L (31 :: L) [.ref (ad 30)] mem (i_X4 mem) (fun _ => none) := by
  refine n_start (own := RX4) rfl rfl hk hz hc (fun sz s hs hEs => EZ_XN h0L hs hEs) (Nat.le_of_ble_eq_true rfl) (fun p e s m args below meth c R Q A ha hR hAe hA hQ hEs hC hin hr hX H locs ls hG hl => ?_)
  have hA0 : ∀ q, A q → sz0 ≤ q := by rw [hAe]; exact aA_ge h0L hEs.1
  subst hR; subst hAe; subst hQ
  have hlocks := hC.lk
  have hl : lv_has ls 1 [(0, .ref (ad 30))] := hl
  obtain ⟨a0, h_30⟩ : ∃ a, ad 30 = a := ⟨_, rfl⟩
  rw [h_30] at hl
  have ea : ∀ o ∈ L, ad o = ad o := fun _ _ => rfl
  refine lv_aload_n hC.x hC.b dX4_init_0 rfl (lv_at hl 0 rfl) ?_
  refine n_obj hC hl.1 kw54 ⟨by decide, by decide⟩ dX4_init_1 ?_
  refine lv_aload_n hC.x hC.b dX4_init_4 rfl (lv_at hl 0 rfl) ?_
  refine lv_bipush (v := (100 : Int32)) hC.x hC.b dX4_init_5 rfl ?_
  refine n_newB (j := 31) (N := 100) hC hG hA f_31 s_31 kw55 rfl (by decide) (by decide) (by decide) dX4_init_7 (fun ad' H b0 e1 hb hG => ?_)
  have h_30 := (e1 _ m_30).trans h_30
  have m_30 := List.mem_cons_of_mem (31) m_30
  have m_31 := List.mem_cons_self (a := 31) (l := L)
  have ea : ∀ o ∈ L, _ = _ := fun o ho => (e1 o ho).trans (ea o ho)
  have h_31 := hb
  refine n_putr (j := 31) hC hin hG pu_X4_9_4 h_30 h_31 m_31 m_30 s_30 rfl (ty := (.array .byte)) (by decide +kernel) (fun q => ⟨rfl, rfl⟩) dX4_init_9 (fun H locs hG => ?_)
  generalize hm1 : gsR mem 30 0 (some 31) = mm1 at hG
  refine W.widen (k := 1) (n := 100) (by decide) (by decide) ?_
  subst hm1
  exact W.vret hC.x hC.b hr (fun t ht hW => ⟨⟨ad', ea, rfl, by rw [ht]; exact hG.2.1.1, hG.1⟩, hG.2.1.2.F ht⟩) hG.2.1.2.2.2 dX4_init_12
def i_X10 (mem : gMem) : gMem := (gsR (gsR (gsR mem 32 0 (some 33)) 32 1 (some 34)) 32 4 (some 35))
theorem k_X10 {mem : gMem} {o k : Nat} (ho : o ≠ 32) : gR (i_X10 mem) o k = gR mem o k := by
  unfold i_X10
  simp (disch := omega) only [gR_sI, gR_n]
theorem z_X10 {sh : Nat → gShp} {L : List Nat} {mem : gMem}  (s_32 : sh 32 = (0, 10, [1, 1, 0, 0, 1, 0, 0, 0, 0, 0])) (s_33 : sh (33) = (1, 144, [])) (s_34 : sh (34) = (1, 12, [])) (s_35 : sh (35) = (1, 372, [])) (m_32 : 32 ∈ L) (f_33 : 33 ∉ L) (f_34 : 34 ∉ L) (f_35 : 35 ∉ L) (hz : gZ L mem) (hc : gCl sh L mem) : gZ (35 :: 34 :: 33 :: L) (i_X10 mem) ∧ gCl sh (35 :: 34 :: 33 :: L) (i_X10 mem) := by
  have hc := gCl_up (j := 33) hc hz f_33 (by rw [s_33]; decide)
  have hz := gZ_up (j := 33) hz
  have m_33 := List.mem_cons_self (a := 33) (l := L)
  have m_32 := List.mem_cons_of_mem (33) m_32
  have f_34 : 34 ∉ 33 :: L := fun z => (List.mem_cons.mp z).elim (fun z => by omega) f_34
  have f_35 : 35 ∉ 33 :: L := fun z => (List.mem_cons.mp z).elim (fun z => by omega) f_35
  have hz := gZ_sR (o := 32) (k := 0) (v := some 33) hz m_32
  have hc := gCl_sR (o := 32) (k := 0) (v := some 33) hc (fun b hb => by cases hb; exact m_33)
  have hc := gCl_up (j := 34) hc hz f_34 (by rw [s_34]; decide)
  have hz := gZ_up (j := 34) hz
  have m_34 := List.mem_cons_self (a := 34) (l := 33 :: L)
  have m_32 := List.mem_cons_of_mem (34) m_32
  have m_33 := List.mem_cons_of_mem (34) m_33
  have f_35 : 35 ∉ 34 :: 33 :: L := fun z => (List.mem_cons.mp z).elim (fun z => by omega) f_35
  have hz := gZ_sR (o := 32) (k := 1) (v := some 34) hz m_32
  have hc := gCl_sR (o := 32) (k := 1) (v := some 34) hc (fun b hb => by cases hb; exact m_34)
  have hc := gCl_up (j := 35) hc hz f_35 (by rw [s_35]; decide)
  have hz := gZ_up (j := 35) hz
  have m_35 := List.mem_cons_self (a := 35) (l := 34 :: 33 :: L)
  have m_32 := List.mem_cons_of_mem (35) m_32
  have m_33 := List.mem_cons_of_mem (35) m_33
  have m_34 := List.mem_cons_of_mem (35) m_34
  have hz := gZ_sR (o := 32) (k := 4) (v := some 35) hz m_32
  have hc := gCl_sR (o := 32) (k := 4) (v := some 35) hc (fun b hb => by cases hb; exact m_35)
  exact ⟨hz, hc⟩
theorem n_X10 {l : Launch} {sz0 : Nat} {adK adV : Nat → Nat} {D : va_G} {cy : Nat → ClassId} {sh : Nat → gShp} {ad : Nat → Nat} {L : List Nat} {mem : gMem}  (s_32 : sh 32 = (0, 10, [1, 1, 0, 0, 1, 0, 0, 0, 0, 0])) (s_33 : sh (33) = (1, 144, [])) (s_34 : sh (34) = (1, 12, [])) (s_35 : sh (35) = (1, 372, [])) (m_32 : 32 ∈ L) (f_33 : 33 ∉ L) (f_34 : 34 ∉ L) (f_35 : 35 ∉ L) (hk : gOk ad L) (hz : gZ L mem) (hc : gCl sh L mem) (h0L : ∀ o ∈ L, sz0 ≤ ad o) : gNew l yX10_init cX10_init 1 none 1 12 3 528 (EZ sz0 adK adV) D cy sh sh ad L (35 :: 34 :: 33 :: L) [.ref (ad 32)] mem (i_X10 mem) (fun _ => none) := by
  refine n_start (own := RX10) rfl rfl hk hz hc (fun sz s hs hEs => EZ_XN h0L hs hEs) (Nat.le_of_ble_eq_true rfl) (fun p e s m args below meth c R Q A ha hR hAe hA hQ hEs hC hin hr hX H locs ls hG hl => ?_)
  have hA0 : ∀ q, A q → sz0 ≤ q := by rw [hAe]; exact aA_ge h0L hEs.1
  subst hR; subst hAe; subst hQ
  have hlocks := hC.lk
  have hl : lv_has ls 1 [(0, .ref (ad 32))] := hl
  obtain ⟨a0, h_32⟩ : ∃ a, ad 32 = a := ⟨_, rfl⟩
  rw [h_32] at hl
  have ea : ∀ o ∈ L, ad o = ad o := fun _ _ => rfl
  refine lv_aload_n hC.x hC.b dX10_init_0 rfl (lv_at hl 0 rfl) ?_
  refine n_obj hC hl.1 kw60 ⟨by decide, by decide⟩ dX10_init_1 ?_
  refine lv_aload_n hC.x hC.b dX10_init_4 rfl (lv_at hl 0 rfl) ?_
  refine lv_sipush (v := (144 : Int32)) hC.x hC.b dX10_init_5 rfl ?_
  refine n_newI (j := 33) (N := 144) hC hG hA f_33 s_33 kw30 rfl (by decide) (by decide) (by decide) dX10_init_8 (fun ad' H b0 e1 hb hG => ?_)
  have h_32 := (e1 _ m_32).trans h_32
  have m_32 := List.mem_cons_of_mem (33) m_32
  have m_33 := List.mem_cons_self (a := 33) (l := L)
  have f_34 : 34 ∉ 33 :: L := fun z => (List.mem_cons.mp z).elim (fun z => by omega) f_34
  have f_35 : 35 ∉ 33 :: L := fun z => (List.mem_cons.mp z).elim (fun z => by omega) f_35
  have ea : ∀ o ∈ L, _ = _ := fun o ho => (e1 o ho).trans (ea o ho)
  have h_33 := hb
  refine n_putr (j := 33) hC hin hG pu_X10_9_10 h_32 h_33 m_33 m_32 s_32 rfl (ty := (.array .int)) (by decide +kernel) (fun q => ⟨rfl, rfl⟩) dX10_init_10 (fun H locs hG => ?_)
  generalize hm1 : gsR mem 32 0 (some 33) = mm1 at hG
  refine lv_aload_n hC.x hC.b dX10_init_13 rfl (lv_at hl 0 rfl) ?_
  refine lv_bipush (v := (12 : Int32)) hC.x hC.b dX10_init_14 rfl ?_
  refine n_newI (j := 34) (N := 12) hC hG hA f_34 s_34 kw30 rfl (by decide) (by decide) (by decide) dX10_init_16 (fun ad' H b1 e1 hb hG => ?_)
  have h_32 := (e1 _ m_32).trans h_32
  have m_32 := List.mem_cons_of_mem (34) m_32
  have m_33 := List.mem_cons_of_mem (34) m_33
  have m_34 := List.mem_cons_self (a := 34) (l := 33 :: L)
  have f_35 : 35 ∉ 34 :: 33 :: L := fun z => (List.mem_cons.mp z).elim (fun z => by omega) f_35
  have ea : ∀ o ∈ L, _ = _ := fun o ho => (e1 o (List.mem_cons_of_mem _ ho)).trans (ea o ho)
  have h_34 := hb
  refine n_putr (j := 34) hC hin hG pu_X10_15_10 h_32 h_34 m_34 m_32 s_32 rfl (ty := (.array .int)) (by decide +kernel) (fun q => ⟨rfl, rfl⟩) dX10_init_18 (fun H locs hG => ?_)
  generalize hm2 : gsR mm1 32 1 (some 34) = mm2 at hG
  refine lv_aload_n hC.x hC.b dX10_init_21 rfl (lv_at hl 0 rfl) ?_
  refine lv_sipush (v := (372 : Int32)) hC.x hC.b dX10_init_22 rfl ?_
  refine n_newI (j := 35) (N := 372) hC hG hA f_35 s_35 kw30 rfl (by decide) (by decide) (by decide) dX10_init_25 (fun ad' H b2 e1 hb hG => ?_)
  have h_32 := (e1 _ m_32).trans h_32
  have m_32 := List.mem_cons_of_mem (35) m_32
  have m_33 := List.mem_cons_of_mem (35) m_33
  have m_34 := List.mem_cons_of_mem (35) m_34
  have m_35 := List.mem_cons_self (a := 35) (l := 34 :: 33 :: L)
  have ea : ∀ o ∈ L, _ = _ := fun o ho => (e1 o (List.mem_cons_of_mem _ (List.mem_cons_of_mem _ ho))).trans (ea o ho)
  have h_35 := hb
  refine n_putr (j := 35) hC hin hG pu_X10_18_10 h_32 h_35 m_35 m_32 s_32 rfl (ty := (.array .int)) (by decide +kernel) (fun q => ⟨rfl, rfl⟩) dX10_init_27 (fun H locs hG => ?_)
  generalize hm3 : gsR mm2 32 4 (some 35) = mm3 at hG
  refine W.widen (k := 3) (n := 528) (by decide) (by decide) ?_
  subst hm1 hm2 hm3
  exact W.vret hC.x hC.b hr (fun t ht hW => ⟨⟨ad', ea, rfl, by rw [ht]; exact hG.2.1.1, hG.1⟩, hG.2.1.2.F ht⟩) hG.2.1.2.2.2 dX10_init_30
def i_X2 (h : Nat) (mem : gMem) : gMem := (gsI (gsI (gsI (gsI (gsI (gsI (gsI (gsI (gsI (gsI (gsI (gsI (gsR (gsR (gsR (gsR (gsR (gsR (gsI (gsR mem h 0 (some (h + 1))) h 2 (11 : Int32)) h 7 (some (h + 2))) h 9 (some (h + 3))) h 10 (some (h + 4))) h 11 (some (h + 5))) h 13 (some (h + 6))) h 16 (some (h + 7))) (h + 1) (ix (0 : Int32)) (3 : Int32)) (h + 1) (ix (1 : Int32)) (3 : Int32)) (h + 1) (ix (2 : Int32)) (3 : Int32)) (h + 1) (ix (3 : Int32)) (3 : Int32)) (h + 1) (ix (4 : Int32)) (3 : Int32)) (h + 1) (ix (5 : Int32)) (3 : Int32)) (h + 1) (ix (6 : Int32)) (3 : Int32)) (h + 1) (ix (7 : Int32)) (3 : Int32)) (h + 1) (ix (8 : Int32)) (3 : Int32)) (h + 1) (ix (9 : Int32)) (3 : Int32)) (h + 1) (ix (10 : Int32)) (3 : Int32)) (h + 1) (ix (11 : Int32)) (3 : Int32))
theorem k_X2 {h : Nat} {mem : gMem} {o k : Nat} (ho : o ≠ h) : gR (i_X2 h mem) o k = gR mem o k := by
  unfold i_X2
  simp (disch := omega) only [gR_sI, gR_n]
theorem z_X2 {sh : Nat → gShp} {L : List Nat} {mem : gMem} {h : Nat} (s_h : sh h = (0, 2, [1, 0, 0, 0, 0, 0, 0, 1, 0, 1, 1, 1, 0, 1, 0, 1, 1])) (s_hp1 : sh (h + 1) = (1, 12, [])) (s_hp2 : sh (h + 2) = (1, 12, [])) (s_hp3 : sh (h + 3) = (1, 6, [])) (s_hp4 : sh (h + 4) = (1, 6, [])) (s_hp5 : sh (h + 5) = (1, 6, [])) (s_hp6 : sh (h + 6) = (1, 12, [])) (s_hp7 : sh (h + 7) = (1, 6, [])) (m_h : h ∈ L) (f_hp1 : h + 1 ∉ L) (f_hp2 : h + 2 ∉ L) (f_hp3 : h + 3 ∉ L) (f_hp4 : h + 4 ∉ L) (f_hp5 : h + 5 ∉ L) (f_hp6 : h + 6 ∉ L) (f_hp7 : h + 7 ∉ L) (hz : gZ L mem) (hc : gCl sh L mem) : gZ ((h + 7) :: (h + 6) :: (h + 5) :: (h + 4) :: (h + 3) :: (h + 2) :: (h + 1) :: L) (i_X2 h mem) ∧ gCl sh ((h + 7) :: (h + 6) :: (h + 5) :: (h + 4) :: (h + 3) :: (h + 2) :: (h + 1) :: L) (i_X2 h mem) := by
  have hc := gCl_up (j := h + 1) hc hz f_hp1 (by rw [s_hp1]; decide)
  have hz := gZ_up (j := h + 1) hz
  have m_hp1 := List.mem_cons_self (a := h + 1) (l := L)
  have m_h := List.mem_cons_of_mem (h + 1) m_h
  have f_hp2 : h + 2 ∉ (h + 1) :: L := fun z => (List.mem_cons.mp z).elim (fun z => by omega) f_hp2
  have f_hp3 : h + 3 ∉ (h + 1) :: L := fun z => (List.mem_cons.mp z).elim (fun z => by omega) f_hp3
  have f_hp4 : h + 4 ∉ (h + 1) :: L := fun z => (List.mem_cons.mp z).elim (fun z => by omega) f_hp4
  have f_hp5 : h + 5 ∉ (h + 1) :: L := fun z => (List.mem_cons.mp z).elim (fun z => by omega) f_hp5
  have f_hp6 : h + 6 ∉ (h + 1) :: L := fun z => (List.mem_cons.mp z).elim (fun z => by omega) f_hp6
  have f_hp7 : h + 7 ∉ (h + 1) :: L := fun z => (List.mem_cons.mp z).elim (fun z => by omega) f_hp7
  have hz := gZ_sR (o := h) (k := 0) (v := some (h + 1)) hz m_h
  have hc := gCl_sR (o := h) (k := 0) (v := some (h + 1)) hc (fun b hb => by cases hb; exact m_hp1)
  have hz := gZ_sI (o := h) (k := 2) (v := (11 : Int32)) hz m_h
  have hc := gCl_sI (o := h) (k := 2) (v := (11 : Int32)) hc
  have hc := gCl_up (j := h + 2) hc hz f_hp2 (by rw [s_hp2]; decide)
  have hz := gZ_up (j := h + 2) hz
  have m_hp2 := List.mem_cons_self (a := h + 2) (l := (h + 1) :: L)
  have m_h := List.mem_cons_of_mem (h + 2) m_h
  have m_hp1 := List.mem_cons_of_mem (h + 2) m_hp1
  have f_hp3 : h + 3 ∉ (h + 2) :: (h + 1) :: L := fun z => (List.mem_cons.mp z).elim (fun z => by omega) f_hp3
  have f_hp4 : h + 4 ∉ (h + 2) :: (h + 1) :: L := fun z => (List.mem_cons.mp z).elim (fun z => by omega) f_hp4
  have f_hp5 : h + 5 ∉ (h + 2) :: (h + 1) :: L := fun z => (List.mem_cons.mp z).elim (fun z => by omega) f_hp5
  have f_hp6 : h + 6 ∉ (h + 2) :: (h + 1) :: L := fun z => (List.mem_cons.mp z).elim (fun z => by omega) f_hp6
  have f_hp7 : h + 7 ∉ (h + 2) :: (h + 1) :: L := fun z => (List.mem_cons.mp z).elim (fun z => by omega) f_hp7
  have hz := gZ_sR (o := h) (k := 7) (v := some (h + 2)) hz m_h
  have hc := gCl_sR (o := h) (k := 7) (v := some (h + 2)) hc (fun b hb => by cases hb; exact m_hp2)
  have hc := gCl_up (j := h + 3) hc hz f_hp3 (by rw [s_hp3]; decide)
  have hz := gZ_up (j := h + 3) hz
  have m_hp3 := List.mem_cons_self (a := h + 3) (l := (h + 2) :: (h + 1) :: L)
  have m_h := List.mem_cons_of_mem (h + 3) m_h
  have m_hp1 := List.mem_cons_of_mem (h + 3) m_hp1
  have m_hp2 := List.mem_cons_of_mem (h + 3) m_hp2
  have f_hp4 : h + 4 ∉ (h + 3) :: (h + 2) :: (h + 1) :: L := fun z => (List.mem_cons.mp z).elim (fun z => by omega) f_hp4
  have f_hp5 : h + 5 ∉ (h + 3) :: (h + 2) :: (h + 1) :: L := fun z => (List.mem_cons.mp z).elim (fun z => by omega) f_hp5
  have f_hp6 : h + 6 ∉ (h + 3) :: (h + 2) :: (h + 1) :: L := fun z => (List.mem_cons.mp z).elim (fun z => by omega) f_hp6
  have f_hp7 : h + 7 ∉ (h + 3) :: (h + 2) :: (h + 1) :: L := fun z => (List.mem_cons.mp z).elim (fun z => by omega) f_hp7
  have hz := gZ_sR (o := h) (k := 9) (v := some (h + 3)) hz m_h
  have hc := gCl_sR (o := h) (k := 9) (v := some (h + 3)) hc (fun b hb => by cases hb; exact m_hp3)
  have hc := gCl_up (j := h + 4) hc hz f_hp4 (by rw [s_hp4]; decide)
  have hz := gZ_up (j := h + 4) hz
  have m_hp4 := List.mem_cons_self (a := h + 4) (l := (h + 3) :: (h + 2) :: (h + 1) :: L)
  have m_h := List.mem_cons_of_mem (h + 4) m_h
  have m_hp1 := List.mem_cons_of_mem (h + 4) m_hp1
  have m_hp2 := List.mem_cons_of_mem (h + 4) m_hp2
  have m_hp3 := List.mem_cons_of_mem (h + 4) m_hp3
  have f_hp5 : h + 5 ∉ (h + 4) :: (h + 3) :: (h + 2) :: (h + 1) :: L := fun z => (List.mem_cons.mp z).elim (fun z => by omega) f_hp5
  have f_hp6 : h + 6 ∉ (h + 4) :: (h + 3) :: (h + 2) :: (h + 1) :: L := fun z => (List.mem_cons.mp z).elim (fun z => by omega) f_hp6
  have f_hp7 : h + 7 ∉ (h + 4) :: (h + 3) :: (h + 2) :: (h + 1) :: L := fun z => (List.mem_cons.mp z).elim (fun z => by omega) f_hp7
  have hz := gZ_sR (o := h) (k := 10) (v := some (h + 4)) hz m_h
  have hc := gCl_sR (o := h) (k := 10) (v := some (h + 4)) hc (fun b hb => by cases hb; exact m_hp4)
  have hc := gCl_up (j := h + 5) hc hz f_hp5 (by rw [s_hp5]; decide)
  have hz := gZ_up (j := h + 5) hz
  have m_hp5 := List.mem_cons_self (a := h + 5) (l := (h + 4) :: (h + 3) :: (h + 2) :: (h + 1) :: L)
  have m_h := List.mem_cons_of_mem (h + 5) m_h
  have m_hp1 := List.mem_cons_of_mem (h + 5) m_hp1
  have m_hp2 := List.mem_cons_of_mem (h + 5) m_hp2
  have m_hp3 := List.mem_cons_of_mem (h + 5) m_hp3
  have m_hp4 := List.mem_cons_of_mem (h + 5) m_hp4
  have f_hp6 : h + 6 ∉ (h + 5) :: (h + 4) :: (h + 3) :: (h + 2) :: (h + 1) :: L := fun z => (List.mem_cons.mp z).elim (fun z => by omega) f_hp6
  have f_hp7 : h + 7 ∉ (h + 5) :: (h + 4) :: (h + 3) :: (h + 2) :: (h + 1) :: L := fun z => (List.mem_cons.mp z).elim (fun z => by omega) f_hp7
  have hz := gZ_sR (o := h) (k := 11) (v := some (h + 5)) hz m_h
  have hc := gCl_sR (o := h) (k := 11) (v := some (h + 5)) hc (fun b hb => by cases hb; exact m_hp5)
  have hc := gCl_up (j := h + 6) hc hz f_hp6 (by rw [s_hp6]; decide)
  have hz := gZ_up (j := h + 6) hz
  have m_hp6 := List.mem_cons_self (a := h + 6) (l := (h + 5) :: (h + 4) :: (h + 3) :: (h + 2) :: (h + 1) :: L)
  have m_h := List.mem_cons_of_mem (h + 6) m_h
  have m_hp1 := List.mem_cons_of_mem (h + 6) m_hp1
  have m_hp2 := List.mem_cons_of_mem (h + 6) m_hp2
  have m_hp3 := List.mem_cons_of_mem (h + 6) m_hp3
  have m_hp4 := List.mem_cons_of_mem (h + 6) m_hp4
  have m_hp5 := List.mem_cons_of_mem (h + 6) m_hp5
  have f_hp7 : h + 7 ∉ (h + 6) :: (h + 5) :: (h + 4) :: (h + 3) :: (h + 2) :: (h + 1) :: L := fun z => (List.mem_cons.mp z).elim (fun z => by omega) f_hp7
  have hz := gZ_sR (o := h) (k := 13) (v := some (h + 6)) hz m_h
  have hc := gCl_sR (o := h) (k := 13) (v := some (h + 6)) hc (fun b hb => by cases hb; exact m_hp6)
  have hc := gCl_up (j := h + 7) hc hz f_hp7 (by rw [s_hp7]; decide)
  have hz := gZ_up (j := h + 7) hz
  have m_hp7 := List.mem_cons_self (a := h + 7) (l := (h + 6) :: (h + 5) :: (h + 4) :: (h + 3) :: (h + 2) :: (h + 1) :: L)
  have m_h := List.mem_cons_of_mem (h + 7) m_h
  have m_hp1 := List.mem_cons_of_mem (h + 7) m_hp1
  have m_hp2 := List.mem_cons_of_mem (h + 7) m_hp2
  have m_hp3 := List.mem_cons_of_mem (h + 7) m_hp3
  have m_hp4 := List.mem_cons_of_mem (h + 7) m_hp4
  have m_hp5 := List.mem_cons_of_mem (h + 7) m_hp5
  have m_hp6 := List.mem_cons_of_mem (h + 7) m_hp6
  have hz := gZ_sR (o := h) (k := 16) (v := some (h + 7)) hz m_h
  have hc := gCl_sR (o := h) (k := 16) (v := some (h + 7)) hc (fun b hb => by cases hb; exact m_hp7)
  have hz := gZ_sI (o := h + 1) (k := ix (0 : Int32)) (v := (3 : Int32)) hz m_hp1
  have hc := gCl_sI (o := h + 1) (k := ix (0 : Int32)) (v := (3 : Int32)) hc
  have hz := gZ_sI (o := h + 1) (k := ix (1 : Int32)) (v := (3 : Int32)) hz m_hp1
  have hc := gCl_sI (o := h + 1) (k := ix (1 : Int32)) (v := (3 : Int32)) hc
  have hz := gZ_sI (o := h + 1) (k := ix (2 : Int32)) (v := (3 : Int32)) hz m_hp1
  have hc := gCl_sI (o := h + 1) (k := ix (2 : Int32)) (v := (3 : Int32)) hc
  have hz := gZ_sI (o := h + 1) (k := ix (3 : Int32)) (v := (3 : Int32)) hz m_hp1
  have hc := gCl_sI (o := h + 1) (k := ix (3 : Int32)) (v := (3 : Int32)) hc
  have hz := gZ_sI (o := h + 1) (k := ix (4 : Int32)) (v := (3 : Int32)) hz m_hp1
  have hc := gCl_sI (o := h + 1) (k := ix (4 : Int32)) (v := (3 : Int32)) hc
  have hz := gZ_sI (o := h + 1) (k := ix (5 : Int32)) (v := (3 : Int32)) hz m_hp1
  have hc := gCl_sI (o := h + 1) (k := ix (5 : Int32)) (v := (3 : Int32)) hc
  have hz := gZ_sI (o := h + 1) (k := ix (6 : Int32)) (v := (3 : Int32)) hz m_hp1
  have hc := gCl_sI (o := h + 1) (k := ix (6 : Int32)) (v := (3 : Int32)) hc
  have hz := gZ_sI (o := h + 1) (k := ix (7 : Int32)) (v := (3 : Int32)) hz m_hp1
  have hc := gCl_sI (o := h + 1) (k := ix (7 : Int32)) (v := (3 : Int32)) hc
  have hz := gZ_sI (o := h + 1) (k := ix (8 : Int32)) (v := (3 : Int32)) hz m_hp1
  have hc := gCl_sI (o := h + 1) (k := ix (8 : Int32)) (v := (3 : Int32)) hc
  have hz := gZ_sI (o := h + 1) (k := ix (9 : Int32)) (v := (3 : Int32)) hz m_hp1
  have hc := gCl_sI (o := h + 1) (k := ix (9 : Int32)) (v := (3 : Int32)) hc
  have hz := gZ_sI (o := h + 1) (k := ix (10 : Int32)) (v := (3 : Int32)) hz m_hp1
  have hc := gCl_sI (o := h + 1) (k := ix (10 : Int32)) (v := (3 : Int32)) hc
  have hz := gZ_sI (o := h + 1) (k := ix (11 : Int32)) (v := (3 : Int32)) hz m_hp1
  have hc := gCl_sI (o := h + 1) (k := ix (11 : Int32)) (v := (3 : Int32)) hc
  exact ⟨hz, hc⟩
theorem n_X2 {l : Launch} {sz0 : Nat} {adK adV : Nat → Nat} {D : va_G} {cy : Nat → ClassId} {sh : Nat → gShp} {ad : Nat → Nat} {L : List Nat} {mem : gMem} {h : Nat} (s_h : sh h = (0, 2, [1, 0, 0, 0, 0, 0, 0, 1, 0, 1, 1, 1, 0, 1, 0, 1, 1])) (s_hp1 : sh (h + 1) = (1, 12, [])) (s_hp2 : sh (h + 2) = (1, 12, [])) (s_hp3 : sh (h + 3) = (1, 6, [])) (s_hp4 : sh (h + 4) = (1, 6, [])) (s_hp5 : sh (h + 5) = (1, 6, [])) (s_hp6 : sh (h + 6) = (1, 12, [])) (s_hp7 : sh (h + 7) = (1, 6, [])) (m_h : h ∈ L) (f_hp1 : h + 1 ∉ L) (f_hp2 : h + 2 ∉ L) (f_hp3 : h + 3 ∉ L) (f_hp4 : h + 4 ∉ L) (f_hp5 : h + 5 ∉ L) (f_hp6 : h + 6 ∉ L) (f_hp7 : h + 7 ∉ L) (hk : gOk ad L) (hz : gZ L mem) (hc : gCl sh L mem) (h0L : ∀ o ∈ L, sz0 ≤ ad o) : gNew l yX2_init cX2_init 2 none 1 12 7 60 (EZ sz0 adK adV) D cy sh sh ad L ((h + 7) :: (h + 6) :: (h + 5) :: (h + 4) :: (h + 3) :: (h + 2) :: (h + 1) :: L) [.ref (ad h)] mem (i_X2 h mem) (fun _ => none) := by
  refine n_start (own := RX2) rfl rfl hk hz hc (fun sz s hs hEs => EZ_XN h0L hs hEs) (Nat.le_of_ble_eq_true rfl) (fun p e s m args below meth c R Q A ha hR hAe hA hQ hEs hC hin hr hX H locs ls hG hl => ?_)
  have hA0 : ∀ q, A q → sz0 ≤ q := by rw [hAe]; exact aA_ge h0L hEs.1
  subst hR; subst hAe; subst hQ
  have hlocks := hC.lk
  have hl : lv_has ls 2 [(0, .ref (ad h))] := hl
  obtain ⟨a0, h_h⟩ : ∃ a, ad h = a := ⟨_, rfl⟩
  rw [h_h] at hl
  have ea : ∀ o ∈ L, ad o = ad o := fun _ _ => rfl
  refine lv_aload_n hC.x hC.b dX2_init_0 rfl (lv_at hl 0 rfl) ?_
  refine n_obj hC hl.1 kw42 ⟨by decide, by decide⟩ dX2_init_1 ?_
  refine lv_aload_n hC.x hC.b dX2_init_4 rfl (lv_at hl 0 rfl) ?_
  refine lv_bipush (v := (12 : Int32)) hC.x hC.b dX2_init_5 rfl ?_
  refine n_newI (j := h + 1) (N := 12) hC hG hA f_hp1 s_hp1 kw30 rfl (by decide) (by decide) (by decide) dX2_init_7 (fun ad' H b0 e1 hb hG => ?_)
  have h_h := (e1 _ m_h).trans h_h
  have m_h := List.mem_cons_of_mem (h + 1) m_h
  have m_hp1 := List.mem_cons_self (a := h + 1) (l := L)
  have f_hp2 : h + 2 ∉ (h + 1) :: L := fun z => (List.mem_cons.mp z).elim (fun z => by omega) f_hp2
  have f_hp3 : h + 3 ∉ (h + 1) :: L := fun z => (List.mem_cons.mp z).elim (fun z => by omega) f_hp3
  have f_hp4 : h + 4 ∉ (h + 1) :: L := fun z => (List.mem_cons.mp z).elim (fun z => by omega) f_hp4
  have f_hp5 : h + 5 ∉ (h + 1) :: L := fun z => (List.mem_cons.mp z).elim (fun z => by omega) f_hp5
  have f_hp6 : h + 6 ∉ (h + 1) :: L := fun z => (List.mem_cons.mp z).elim (fun z => by omega) f_hp6
  have f_hp7 : h + 7 ∉ (h + 1) :: L := fun z => (List.mem_cons.mp z).elim (fun z => by omega) f_hp7
  have ea : ∀ o ∈ L, _ = _ := fun o ho => (e1 o ho).trans (ea o ho)
  have h_hp1 := hb
  refine n_putr (j := h + 1) hC hin hG pu_X2_9_2 h_h h_hp1 m_hp1 m_h s_h rfl (ty := (.array .int)) (by decide +kernel) (fun q => ⟨rfl, rfl⟩) dX2_init_9 (fun H locs hG => ?_)
  generalize hm1 : gsR mem h 0 (some (h + 1)) = mm1 at hG
  have c_hp1 : gR mm1 h 0 = some (h + 1) := by rw [← hm1]; exact gR_y ⟨rfl, rfl⟩
  refine lv_aload_n hC.x hC.b dX2_init_12 rfl (lv_at hl 0 rfl) ?_
  refine lv_bipush (v := (11 : Int32)) hC.x hC.b dX2_init_13 rfl ?_
  refine n_puti hC hin hG pu_X2_15_2 h_h m_h s_h rfl dX2_init_15 (fun H locs hG => ?_)
  generalize hm2 : gsI mm1 h 2 (11 : Int32) = mm2 at hG
  have c_hp1 : gR mm2 h 0 = some (h + 1) := by rw [← hm2]; first | exact c_hp1 | (rw [gR_n (by omega)]; exact c_hp1)
  refine lv_aload_n hC.x hC.b dX2_init_18 rfl (lv_at hl 0 rfl) ?_
  refine lv_bipush (v := (12 : Int32)) hC.x hC.b dX2_init_19 rfl ?_
  refine n_newI (j := h + 2) (N := 12) hC hG hA f_hp2 s_hp2 kw30 rfl (by decide) (by decide) (by decide) dX2_init_21 (fun ad' H b1 e1 hb hG => ?_)
  have h_h := (e1 _ m_h).trans h_h
  have m_h := List.mem_cons_of_mem (h + 2) m_h
  have m_hp1 := List.mem_cons_of_mem (h + 2) m_hp1
  have m_hp2 := List.mem_cons_self (a := h + 2) (l := (h + 1) :: L)
  have f_hp3 : h + 3 ∉ (h + 2) :: (h + 1) :: L := fun z => (List.mem_cons.mp z).elim (fun z => by omega) f_hp3
  have f_hp4 : h + 4 ∉ (h + 2) :: (h + 1) :: L := fun z => (List.mem_cons.mp z).elim (fun z => by omega) f_hp4
  have f_hp5 : h + 5 ∉ (h + 2) :: (h + 1) :: L := fun z => (List.mem_cons.mp z).elim (fun z => by omega) f_hp5
  have f_hp6 : h + 6 ∉ (h + 2) :: (h + 1) :: L := fun z => (List.mem_cons.mp z).elim (fun z => by omega) f_hp6
  have f_hp7 : h + 7 ∉ (h + 2) :: (h + 1) :: L := fun z => (List.mem_cons.mp z).elim (fun z => by omega) f_hp7
  have ea : ∀ o ∈ L, _ = _ := fun o ho => (e1 o (List.mem_cons_of_mem _ ho)).trans (ea o ho)
  have h_hp2 := hb
  refine n_putr (j := h + 2) hC hin hG pu_X2_19_2 h_h h_hp2 m_hp2 m_h s_h rfl (ty := (.array .int)) (by decide +kernel) (fun q => ⟨rfl, rfl⟩) dX2_init_23 (fun H locs hG => ?_)
  generalize hm3 : gsR mm2 h 7 (some (h + 2)) = mm3 at hG
  have c_hp1 : gR mm3 h 0 = some (h + 1) := by rw [← hm3]; first | exact c_hp1 | (rw [gR_n (by omega)]; exact c_hp1)
  refine lv_aload_n hC.x hC.b dX2_init_26 rfl (lv_at hl 0 rfl) ?_
  refine lv_bipush (v := (6 : Int32)) hC.x hC.b dX2_init_27 rfl ?_
  refine n_newI (j := h + 3) (N := 6) hC hG hA f_hp3 s_hp3 kw30 rfl (by decide) (by decide) (by decide) dX2_init_29 (fun ad' H b2 e1 hb hG => ?_)
  have h_h := (e1 _ m_h).trans h_h
  have m_h := List.mem_cons_of_mem (h + 3) m_h
  have m_hp1 := List.mem_cons_of_mem (h + 3) m_hp1
  have m_hp2 := List.mem_cons_of_mem (h + 3) m_hp2
  have m_hp3 := List.mem_cons_self (a := h + 3) (l := (h + 2) :: (h + 1) :: L)
  have f_hp4 : h + 4 ∉ (h + 3) :: (h + 2) :: (h + 1) :: L := fun z => (List.mem_cons.mp z).elim (fun z => by omega) f_hp4
  have f_hp5 : h + 5 ∉ (h + 3) :: (h + 2) :: (h + 1) :: L := fun z => (List.mem_cons.mp z).elim (fun z => by omega) f_hp5
  have f_hp6 : h + 6 ∉ (h + 3) :: (h + 2) :: (h + 1) :: L := fun z => (List.mem_cons.mp z).elim (fun z => by omega) f_hp6
  have f_hp7 : h + 7 ∉ (h + 3) :: (h + 2) :: (h + 1) :: L := fun z => (List.mem_cons.mp z).elim (fun z => by omega) f_hp7
  have ea : ∀ o ∈ L, _ = _ := fun o ho => (e1 o (List.mem_cons_of_mem _ (List.mem_cons_of_mem _ ho))).trans (ea o ho)
  have h_hp3 := hb
  refine n_putr (j := h + 3) hC hin hG pu_X2_22_2 h_h h_hp3 m_hp3 m_h s_h rfl (ty := (.array .int)) (by decide +kernel) (fun q => ⟨rfl, rfl⟩) dX2_init_31 (fun H locs hG => ?_)
  generalize hm4 : gsR mm3 h 9 (some (h + 3)) = mm4 at hG
  have c_hp1 : gR mm4 h 0 = some (h + 1) := by rw [← hm4]; first | exact c_hp1 | (rw [gR_n (by omega)]; exact c_hp1)
  refine lv_aload_n hC.x hC.b dX2_init_34 rfl (lv_at hl 0 rfl) ?_
  refine lv_bipush (v := (6 : Int32)) hC.x hC.b dX2_init_35 rfl ?_
  refine n_newI (j := h + 4) (N := 6) hC hG hA f_hp4 s_hp4 kw30 rfl (by decide) (by decide) (by decide) dX2_init_37 (fun ad' H b3 e1 hb hG => ?_)
  have h_h := (e1 _ m_h).trans h_h
  have m_h := List.mem_cons_of_mem (h + 4) m_h
  have m_hp1 := List.mem_cons_of_mem (h + 4) m_hp1
  have m_hp2 := List.mem_cons_of_mem (h + 4) m_hp2
  have m_hp3 := List.mem_cons_of_mem (h + 4) m_hp3
  have m_hp4 := List.mem_cons_self (a := h + 4) (l := (h + 3) :: (h + 2) :: (h + 1) :: L)
  have f_hp5 : h + 5 ∉ (h + 4) :: (h + 3) :: (h + 2) :: (h + 1) :: L := fun z => (List.mem_cons.mp z).elim (fun z => by omega) f_hp5
  have f_hp6 : h + 6 ∉ (h + 4) :: (h + 3) :: (h + 2) :: (h + 1) :: L := fun z => (List.mem_cons.mp z).elim (fun z => by omega) f_hp6
  have f_hp7 : h + 7 ∉ (h + 4) :: (h + 3) :: (h + 2) :: (h + 1) :: L := fun z => (List.mem_cons.mp z).elim (fun z => by omega) f_hp7
  have ea : ∀ o ∈ L, _ = _ := fun o ho => (e1 o (List.mem_cons_of_mem _ (List.mem_cons_of_mem _ (List.mem_cons_of_mem _ ho)))).trans (ea o ho)
  have h_hp4 := hb
  refine n_putr (j := h + 4) hC hin hG pu_X2_25_2 h_h h_hp4 m_hp4 m_h s_h rfl (ty := (.array .int)) (by decide +kernel) (fun q => ⟨rfl, rfl⟩) dX2_init_39 (fun H locs hG => ?_)
  generalize hm5 : gsR mm4 h 10 (some (h + 4)) = mm5 at hG
  have c_hp1 : gR mm5 h 0 = some (h + 1) := by rw [← hm5]; first | exact c_hp1 | (rw [gR_n (by omega)]; exact c_hp1)
  refine lv_aload_n hC.x hC.b dX2_init_42 rfl (lv_at hl 0 rfl) ?_
  refine lv_bipush (v := (6 : Int32)) hC.x hC.b dX2_init_43 rfl ?_
  refine n_newI (j := h + 5) (N := 6) hC hG hA f_hp5 s_hp5 kw30 rfl (by decide) (by decide) (by decide) dX2_init_45 (fun ad' H b4 e1 hb hG => ?_)
  have h_h := (e1 _ m_h).trans h_h
  have m_h := List.mem_cons_of_mem (h + 5) m_h
  have m_hp1 := List.mem_cons_of_mem (h + 5) m_hp1
  have m_hp2 := List.mem_cons_of_mem (h + 5) m_hp2
  have m_hp3 := List.mem_cons_of_mem (h + 5) m_hp3
  have m_hp4 := List.mem_cons_of_mem (h + 5) m_hp4
  have m_hp5 := List.mem_cons_self (a := h + 5) (l := (h + 4) :: (h + 3) :: (h + 2) :: (h + 1) :: L)
  have f_hp6 : h + 6 ∉ (h + 5) :: (h + 4) :: (h + 3) :: (h + 2) :: (h + 1) :: L := fun z => (List.mem_cons.mp z).elim (fun z => by omega) f_hp6
  have f_hp7 : h + 7 ∉ (h + 5) :: (h + 4) :: (h + 3) :: (h + 2) :: (h + 1) :: L := fun z => (List.mem_cons.mp z).elim (fun z => by omega) f_hp7
  have ea : ∀ o ∈ L, _ = _ := fun o ho => (e1 o (List.mem_cons_of_mem _ (List.mem_cons_of_mem _ (List.mem_cons_of_mem _ (List.mem_cons_of_mem _ ho))))).trans (ea o ho)
  have h_hp5 := hb
  refine n_putr (j := h + 5) hC hin hG pu_X2_28_2 h_h h_hp5 m_hp5 m_h s_h rfl (ty := (.array .int)) (by decide +kernel) (fun q => ⟨rfl, rfl⟩) dX2_init_47 (fun H locs hG => ?_)
  generalize hm6 : gsR mm5 h 11 (some (h + 5)) = mm6 at hG
  have c_hp1 : gR mm6 h 0 = some (h + 1) := by rw [← hm6]; first | exact c_hp1 | (rw [gR_n (by omega)]; exact c_hp1)
  refine lv_aload_n hC.x hC.b dX2_init_50 rfl (lv_at hl 0 rfl) ?_
  refine lv_bipush (v := (12 : Int32)) hC.x hC.b dX2_init_51 rfl ?_
  refine n_newI (j := h + 6) (N := 12) hC hG hA f_hp6 s_hp6 kw30 rfl (by decide) (by decide) (by decide) dX2_init_53 (fun ad' H b5 e1 hb hG => ?_)
  have h_h := (e1 _ m_h).trans h_h
  have m_h := List.mem_cons_of_mem (h + 6) m_h
  have m_hp1 := List.mem_cons_of_mem (h + 6) m_hp1
  have m_hp2 := List.mem_cons_of_mem (h + 6) m_hp2
  have m_hp3 := List.mem_cons_of_mem (h + 6) m_hp3
  have m_hp4 := List.mem_cons_of_mem (h + 6) m_hp4
  have m_hp5 := List.mem_cons_of_mem (h + 6) m_hp5
  have m_hp6 := List.mem_cons_self (a := h + 6) (l := (h + 5) :: (h + 4) :: (h + 3) :: (h + 2) :: (h + 1) :: L)
  have f_hp7 : h + 7 ∉ (h + 6) :: (h + 5) :: (h + 4) :: (h + 3) :: (h + 2) :: (h + 1) :: L := fun z => (List.mem_cons.mp z).elim (fun z => by omega) f_hp7
  have ea : ∀ o ∈ L, _ = _ := fun o ho => (e1 o (List.mem_cons_of_mem _ (List.mem_cons_of_mem _ (List.mem_cons_of_mem _ (List.mem_cons_of_mem _ (List.mem_cons_of_mem _ ho)))))).trans (ea o ho)
  have h_hp6 := hb
  refine n_putr (j := h + 6) hC hin hG pu_X2_31_2 h_h h_hp6 m_hp6 m_h s_h rfl (ty := (.array .int)) (by decide +kernel) (fun q => ⟨rfl, rfl⟩) dX2_init_55 (fun H locs hG => ?_)
  generalize hm7 : gsR mm6 h 13 (some (h + 6)) = mm7 at hG
  have c_hp1 : gR mm7 h 0 = some (h + 1) := by rw [← hm7]; first | exact c_hp1 | (rw [gR_n (by omega)]; exact c_hp1)
  refine lv_aload_n hC.x hC.b dX2_init_58 rfl (lv_at hl 0 rfl) ?_
  refine lv_bipush (v := (6 : Int32)) hC.x hC.b dX2_init_59 rfl ?_
  refine n_newI (j := h + 7) (N := 6) hC hG hA f_hp7 s_hp7 kw30 rfl (by decide) (by decide) (by decide) dX2_init_61 (fun ad' H b6 e1 hb hG => ?_)
  have h_h := (e1 _ m_h).trans h_h
  have m_h := List.mem_cons_of_mem (h + 7) m_h
  have m_hp1 := List.mem_cons_of_mem (h + 7) m_hp1
  have m_hp2 := List.mem_cons_of_mem (h + 7) m_hp2
  have m_hp3 := List.mem_cons_of_mem (h + 7) m_hp3
  have m_hp4 := List.mem_cons_of_mem (h + 7) m_hp4
  have m_hp5 := List.mem_cons_of_mem (h + 7) m_hp5
  have m_hp6 := List.mem_cons_of_mem (h + 7) m_hp6
  have m_hp7 := List.mem_cons_self (a := h + 7) (l := (h + 6) :: (h + 5) :: (h + 4) :: (h + 3) :: (h + 2) :: (h + 1) :: L)
  have ea : ∀ o ∈ L, _ = _ := fun o ho => (e1 o (List.mem_cons_of_mem _ (List.mem_cons_of_mem _ (List.mem_cons_of_mem _ (List.mem_cons_of_mem _ (List.mem_cons_of_mem _ (List.mem_cons_of_mem _ ho))))))).trans (ea o ho)
  have h_hp7 := hb
  refine n_putr (j := h + 7) hC hin hG pu_X2_34_2 h_h h_hp7 m_hp7 m_h s_h rfl (ty := (.array .int)) (by decide +kernel) (fun q => ⟨rfl, rfl⟩) dX2_init_63 (fun H locs hG => ?_)
  generalize hm8 : gsR mm7 h 16 (some (h + 7)) = mm8 at hG
  have c_hp1 : gR mm8 h 0 = some (h + 1) := by rw [← hm8]; first | exact c_hp1 | (rw [gR_n (by omega)]; exact c_hp1)
  refine lv_iconst (v := (0 : Int32)) hC.x hC.b dX2_init_66 rfl ?_
  refine lv_istore_n (lv' := [(1, .int (0 : Int32)), (0, .ref a0)]) hC.x hC.b dX2_init_67 rfl hl (by decide) rfl (fun ls hl => ?_)
  refine lv_iload_n hC.x hC.b dX2_init_68 rfl (lv_at hl 0 rfl) ?_
  refine lv_bipush (v := (12 : Int32)) hC.x hC.b dX2_init_69 rfl ?_
  refine lv_icmp_ge (tgt := 87) hC.x hC.b dX2_init_71 (by decide) (fun z => absurd z (by decide)) (fun _ => ?_)
  refine lv_aload_n hC.x hC.b dX2_init_74 rfl (lv_at hl 1 rfl) ?_
  refine n_getr hC hG fu_X2_9_2 h_h rfl m_h s_h rfl c_hp1 dX2_init_75 ?_
  generalize h_hp1 : ad' (h + 1) = bg
  refine lv_iload_n hC.x hC.b dX2_init_78 rfl (lv_at hl 0 rfl) ?_
  refine lv_iconst (v := (3 : Int32)) hC.x hC.b dX2_init_79 rfl ?_
  refine n_iast hC hG h_hp1 m_hp1 s_hp1 (by decide) dX2_init_80 (fun H locs hG => ?_)
  generalize hm9 : gsI mm8 (h + 1) (ix (0 : Int32)) (3 : Int32) = mm9 at hG
  have c_hp1 : gR mm9 h 0 = some (h + 1) := by rw [← hm9]; first | exact c_hp1 | (rw [gR_n (by omega)]; exact c_hp1)
  refine lv_iinc (lv' := [(1, .int (1 : Int32)), (0, .ref a0)]) (v := (1 : Int32)) hC.x hC.b dX2_init_81 hl (k := 0) rfl (by decide) (by decide) rfl (fun ls hl => ?_)
  refine lv_goto (tgt := 68) hC.x hC.b dX2_init_84 (by decide) ?_
  refine lv_iload_n hC.x hC.b dX2_init_68 rfl (lv_at hl 0 rfl) ?_
  refine lv_bipush (v := (12 : Int32)) hC.x hC.b dX2_init_69 rfl ?_
  refine lv_icmp_ge (tgt := 87) hC.x hC.b dX2_init_71 (by decide) (fun z => absurd z (by decide)) (fun _ => ?_)
  refine lv_aload_n hC.x hC.b dX2_init_74 rfl (lv_at hl 1 rfl) ?_
  refine n_getr hC hG fu_X2_9_2 h_h rfl m_h s_h rfl c_hp1 dX2_init_75 ?_
  generalize h_hp1 : ad' (h + 1) = bg
  refine lv_iload_n hC.x hC.b dX2_init_78 rfl (lv_at hl 0 rfl) ?_
  refine lv_iconst (v := (3 : Int32)) hC.x hC.b dX2_init_79 rfl ?_
  refine n_iast hC hG h_hp1 m_hp1 s_hp1 (by decide) dX2_init_80 (fun H locs hG => ?_)
  generalize hm10 : gsI mm9 (h + 1) (ix (1 : Int32)) (3 : Int32) = mm10 at hG
  have c_hp1 : gR mm10 h 0 = some (h + 1) := by rw [← hm10]; first | exact c_hp1 | (rw [gR_n (by omega)]; exact c_hp1)
  refine lv_iinc (lv' := [(1, .int (2 : Int32)), (0, .ref a0)]) (v := (2 : Int32)) hC.x hC.b dX2_init_81 hl (k := 0) rfl (by decide) (by decide) rfl (fun ls hl => ?_)
  refine lv_goto (tgt := 68) hC.x hC.b dX2_init_84 (by decide) ?_
  refine lv_iload_n hC.x hC.b dX2_init_68 rfl (lv_at hl 0 rfl) ?_
  refine lv_bipush (v := (12 : Int32)) hC.x hC.b dX2_init_69 rfl ?_
  refine lv_icmp_ge (tgt := 87) hC.x hC.b dX2_init_71 (by decide) (fun z => absurd z (by decide)) (fun _ => ?_)
  refine lv_aload_n hC.x hC.b dX2_init_74 rfl (lv_at hl 1 rfl) ?_
  refine n_getr hC hG fu_X2_9_2 h_h rfl m_h s_h rfl c_hp1 dX2_init_75 ?_
  generalize h_hp1 : ad' (h + 1) = bg
  refine lv_iload_n hC.x hC.b dX2_init_78 rfl (lv_at hl 0 rfl) ?_
  refine lv_iconst (v := (3 : Int32)) hC.x hC.b dX2_init_79 rfl ?_
  refine n_iast hC hG h_hp1 m_hp1 s_hp1 (by decide) dX2_init_80 (fun H locs hG => ?_)
  generalize hm11 : gsI mm10 (h + 1) (ix (2 : Int32)) (3 : Int32) = mm11 at hG
  have c_hp1 : gR mm11 h 0 = some (h + 1) := by rw [← hm11]; first | exact c_hp1 | (rw [gR_n (by omega)]; exact c_hp1)
  refine lv_iinc (lv' := [(1, .int (3 : Int32)), (0, .ref a0)]) (v := (3 : Int32)) hC.x hC.b dX2_init_81 hl (k := 0) rfl (by decide) (by decide) rfl (fun ls hl => ?_)
  refine lv_goto (tgt := 68) hC.x hC.b dX2_init_84 (by decide) ?_
  refine lv_iload_n hC.x hC.b dX2_init_68 rfl (lv_at hl 0 rfl) ?_
  refine lv_bipush (v := (12 : Int32)) hC.x hC.b dX2_init_69 rfl ?_
  refine lv_icmp_ge (tgt := 87) hC.x hC.b dX2_init_71 (by decide) (fun z => absurd z (by decide)) (fun _ => ?_)
  refine lv_aload_n hC.x hC.b dX2_init_74 rfl (lv_at hl 1 rfl) ?_
  refine n_getr hC hG fu_X2_9_2 h_h rfl m_h s_h rfl c_hp1 dX2_init_75 ?_
  generalize h_hp1 : ad' (h + 1) = bg
  refine lv_iload_n hC.x hC.b dX2_init_78 rfl (lv_at hl 0 rfl) ?_
  refine lv_iconst (v := (3 : Int32)) hC.x hC.b dX2_init_79 rfl ?_
  refine n_iast hC hG h_hp1 m_hp1 s_hp1 (by decide) dX2_init_80 (fun H locs hG => ?_)
  generalize hm12 : gsI mm11 (h + 1) (ix (3 : Int32)) (3 : Int32) = mm12 at hG
  have c_hp1 : gR mm12 h 0 = some (h + 1) := by rw [← hm12]; first | exact c_hp1 | (rw [gR_n (by omega)]; exact c_hp1)
  refine lv_iinc (lv' := [(1, .int (4 : Int32)), (0, .ref a0)]) (v := (4 : Int32)) hC.x hC.b dX2_init_81 hl (k := 0) rfl (by decide) (by decide) rfl (fun ls hl => ?_)
  refine lv_goto (tgt := 68) hC.x hC.b dX2_init_84 (by decide) ?_
  refine lv_iload_n hC.x hC.b dX2_init_68 rfl (lv_at hl 0 rfl) ?_
  refine lv_bipush (v := (12 : Int32)) hC.x hC.b dX2_init_69 rfl ?_
  refine lv_icmp_ge (tgt := 87) hC.x hC.b dX2_init_71 (by decide) (fun z => absurd z (by decide)) (fun _ => ?_)
  refine lv_aload_n hC.x hC.b dX2_init_74 rfl (lv_at hl 1 rfl) ?_
  refine n_getr hC hG fu_X2_9_2 h_h rfl m_h s_h rfl c_hp1 dX2_init_75 ?_
  generalize h_hp1 : ad' (h + 1) = bg
  refine lv_iload_n hC.x hC.b dX2_init_78 rfl (lv_at hl 0 rfl) ?_
  refine lv_iconst (v := (3 : Int32)) hC.x hC.b dX2_init_79 rfl ?_
  refine n_iast hC hG h_hp1 m_hp1 s_hp1 (by decide) dX2_init_80 (fun H locs hG => ?_)
  generalize hm13 : gsI mm12 (h + 1) (ix (4 : Int32)) (3 : Int32) = mm13 at hG
  have c_hp1 : gR mm13 h 0 = some (h + 1) := by rw [← hm13]; first | exact c_hp1 | (rw [gR_n (by omega)]; exact c_hp1)
  refine lv_iinc (lv' := [(1, .int (5 : Int32)), (0, .ref a0)]) (v := (5 : Int32)) hC.x hC.b dX2_init_81 hl (k := 0) rfl (by decide) (by decide) rfl (fun ls hl => ?_)
  refine lv_goto (tgt := 68) hC.x hC.b dX2_init_84 (by decide) ?_
  refine lv_iload_n hC.x hC.b dX2_init_68 rfl (lv_at hl 0 rfl) ?_
  refine lv_bipush (v := (12 : Int32)) hC.x hC.b dX2_init_69 rfl ?_
  refine lv_icmp_ge (tgt := 87) hC.x hC.b dX2_init_71 (by decide) (fun z => absurd z (by decide)) (fun _ => ?_)
  refine lv_aload_n hC.x hC.b dX2_init_74 rfl (lv_at hl 1 rfl) ?_
  refine n_getr hC hG fu_X2_9_2 h_h rfl m_h s_h rfl c_hp1 dX2_init_75 ?_
  generalize h_hp1 : ad' (h + 1) = bg
  refine lv_iload_n hC.x hC.b dX2_init_78 rfl (lv_at hl 0 rfl) ?_
  refine lv_iconst (v := (3 : Int32)) hC.x hC.b dX2_init_79 rfl ?_
  refine n_iast hC hG h_hp1 m_hp1 s_hp1 (by decide) dX2_init_80 (fun H locs hG => ?_)
  generalize hm14 : gsI mm13 (h + 1) (ix (5 : Int32)) (3 : Int32) = mm14 at hG
  have c_hp1 : gR mm14 h 0 = some (h + 1) := by rw [← hm14]; first | exact c_hp1 | (rw [gR_n (by omega)]; exact c_hp1)
  refine lv_iinc (lv' := [(1, .int (6 : Int32)), (0, .ref a0)]) (v := (6 : Int32)) hC.x hC.b dX2_init_81 hl (k := 0) rfl (by decide) (by decide) rfl (fun ls hl => ?_)
  refine lv_goto (tgt := 68) hC.x hC.b dX2_init_84 (by decide) ?_
  refine lv_iload_n hC.x hC.b dX2_init_68 rfl (lv_at hl 0 rfl) ?_
  refine lv_bipush (v := (12 : Int32)) hC.x hC.b dX2_init_69 rfl ?_
  refine lv_icmp_ge (tgt := 87) hC.x hC.b dX2_init_71 (by decide) (fun z => absurd z (by decide)) (fun _ => ?_)
  refine lv_aload_n hC.x hC.b dX2_init_74 rfl (lv_at hl 1 rfl) ?_
  refine n_getr hC hG fu_X2_9_2 h_h rfl m_h s_h rfl c_hp1 dX2_init_75 ?_
  generalize h_hp1 : ad' (h + 1) = bg
  refine lv_iload_n hC.x hC.b dX2_init_78 rfl (lv_at hl 0 rfl) ?_
  refine lv_iconst (v := (3 : Int32)) hC.x hC.b dX2_init_79 rfl ?_
  refine n_iast hC hG h_hp1 m_hp1 s_hp1 (by decide) dX2_init_80 (fun H locs hG => ?_)
  generalize hm15 : gsI mm14 (h + 1) (ix (6 : Int32)) (3 : Int32) = mm15 at hG
  have c_hp1 : gR mm15 h 0 = some (h + 1) := by rw [← hm15]; first | exact c_hp1 | (rw [gR_n (by omega)]; exact c_hp1)
  refine lv_iinc (lv' := [(1, .int (7 : Int32)), (0, .ref a0)]) (v := (7 : Int32)) hC.x hC.b dX2_init_81 hl (k := 0) rfl (by decide) (by decide) rfl (fun ls hl => ?_)
  refine lv_goto (tgt := 68) hC.x hC.b dX2_init_84 (by decide) ?_
  refine lv_iload_n hC.x hC.b dX2_init_68 rfl (lv_at hl 0 rfl) ?_
  refine lv_bipush (v := (12 : Int32)) hC.x hC.b dX2_init_69 rfl ?_
  refine lv_icmp_ge (tgt := 87) hC.x hC.b dX2_init_71 (by decide) (fun z => absurd z (by decide)) (fun _ => ?_)
  refine lv_aload_n hC.x hC.b dX2_init_74 rfl (lv_at hl 1 rfl) ?_
  refine n_getr hC hG fu_X2_9_2 h_h rfl m_h s_h rfl c_hp1 dX2_init_75 ?_
  generalize h_hp1 : ad' (h + 1) = bg
  refine lv_iload_n hC.x hC.b dX2_init_78 rfl (lv_at hl 0 rfl) ?_
  refine lv_iconst (v := (3 : Int32)) hC.x hC.b dX2_init_79 rfl ?_
  refine n_iast hC hG h_hp1 m_hp1 s_hp1 (by decide) dX2_init_80 (fun H locs hG => ?_)
  generalize hm16 : gsI mm15 (h + 1) (ix (7 : Int32)) (3 : Int32) = mm16 at hG
  have c_hp1 : gR mm16 h 0 = some (h + 1) := by rw [← hm16]; first | exact c_hp1 | (rw [gR_n (by omega)]; exact c_hp1)
  refine lv_iinc (lv' := [(1, .int (8 : Int32)), (0, .ref a0)]) (v := (8 : Int32)) hC.x hC.b dX2_init_81 hl (k := 0) rfl (by decide) (by decide) rfl (fun ls hl => ?_)
  refine lv_goto (tgt := 68) hC.x hC.b dX2_init_84 (by decide) ?_
  refine lv_iload_n hC.x hC.b dX2_init_68 rfl (lv_at hl 0 rfl) ?_
  refine lv_bipush (v := (12 : Int32)) hC.x hC.b dX2_init_69 rfl ?_
  refine lv_icmp_ge (tgt := 87) hC.x hC.b dX2_init_71 (by decide) (fun z => absurd z (by decide)) (fun _ => ?_)
  refine lv_aload_n hC.x hC.b dX2_init_74 rfl (lv_at hl 1 rfl) ?_
  refine n_getr hC hG fu_X2_9_2 h_h rfl m_h s_h rfl c_hp1 dX2_init_75 ?_
  generalize h_hp1 : ad' (h + 1) = bg
  refine lv_iload_n hC.x hC.b dX2_init_78 rfl (lv_at hl 0 rfl) ?_
  refine lv_iconst (v := (3 : Int32)) hC.x hC.b dX2_init_79 rfl ?_
  refine n_iast hC hG h_hp1 m_hp1 s_hp1 (by decide) dX2_init_80 (fun H locs hG => ?_)
  generalize hm17 : gsI mm16 (h + 1) (ix (8 : Int32)) (3 : Int32) = mm17 at hG
  have c_hp1 : gR mm17 h 0 = some (h + 1) := by rw [← hm17]; first | exact c_hp1 | (rw [gR_n (by omega)]; exact c_hp1)
  refine lv_iinc (lv' := [(1, .int (9 : Int32)), (0, .ref a0)]) (v := (9 : Int32)) hC.x hC.b dX2_init_81 hl (k := 0) rfl (by decide) (by decide) rfl (fun ls hl => ?_)
  refine lv_goto (tgt := 68) hC.x hC.b dX2_init_84 (by decide) ?_
  refine lv_iload_n hC.x hC.b dX2_init_68 rfl (lv_at hl 0 rfl) ?_
  refine lv_bipush (v := (12 : Int32)) hC.x hC.b dX2_init_69 rfl ?_
  refine lv_icmp_ge (tgt := 87) hC.x hC.b dX2_init_71 (by decide) (fun z => absurd z (by decide)) (fun _ => ?_)
  refine lv_aload_n hC.x hC.b dX2_init_74 rfl (lv_at hl 1 rfl) ?_
  refine n_getr hC hG fu_X2_9_2 h_h rfl m_h s_h rfl c_hp1 dX2_init_75 ?_
  generalize h_hp1 : ad' (h + 1) = bg
  refine lv_iload_n hC.x hC.b dX2_init_78 rfl (lv_at hl 0 rfl) ?_
  refine lv_iconst (v := (3 : Int32)) hC.x hC.b dX2_init_79 rfl ?_
  refine n_iast hC hG h_hp1 m_hp1 s_hp1 (by decide) dX2_init_80 (fun H locs hG => ?_)
  generalize hm18 : gsI mm17 (h + 1) (ix (9 : Int32)) (3 : Int32) = mm18 at hG
  have c_hp1 : gR mm18 h 0 = some (h + 1) := by rw [← hm18]; first | exact c_hp1 | (rw [gR_n (by omega)]; exact c_hp1)
  refine lv_iinc (lv' := [(1, .int (10 : Int32)), (0, .ref a0)]) (v := (10 : Int32)) hC.x hC.b dX2_init_81 hl (k := 0) rfl (by decide) (by decide) rfl (fun ls hl => ?_)
  refine lv_goto (tgt := 68) hC.x hC.b dX2_init_84 (by decide) ?_
  refine lv_iload_n hC.x hC.b dX2_init_68 rfl (lv_at hl 0 rfl) ?_
  refine lv_bipush (v := (12 : Int32)) hC.x hC.b dX2_init_69 rfl ?_
  refine lv_icmp_ge (tgt := 87) hC.x hC.b dX2_init_71 (by decide) (fun z => absurd z (by decide)) (fun _ => ?_)
  refine lv_aload_n hC.x hC.b dX2_init_74 rfl (lv_at hl 1 rfl) ?_
  refine n_getr hC hG fu_X2_9_2 h_h rfl m_h s_h rfl c_hp1 dX2_init_75 ?_
  generalize h_hp1 : ad' (h + 1) = bg
  refine lv_iload_n hC.x hC.b dX2_init_78 rfl (lv_at hl 0 rfl) ?_
  refine lv_iconst (v := (3 : Int32)) hC.x hC.b dX2_init_79 rfl ?_
  refine n_iast hC hG h_hp1 m_hp1 s_hp1 (by decide) dX2_init_80 (fun H locs hG => ?_)
  generalize hm19 : gsI mm18 (h + 1) (ix (10 : Int32)) (3 : Int32) = mm19 at hG
  have c_hp1 : gR mm19 h 0 = some (h + 1) := by rw [← hm19]; first | exact c_hp1 | (rw [gR_n (by omega)]; exact c_hp1)
  refine lv_iinc (lv' := [(1, .int (11 : Int32)), (0, .ref a0)]) (v := (11 : Int32)) hC.x hC.b dX2_init_81 hl (k := 0) rfl (by decide) (by decide) rfl (fun ls hl => ?_)
  refine lv_goto (tgt := 68) hC.x hC.b dX2_init_84 (by decide) ?_
  refine lv_iload_n hC.x hC.b dX2_init_68 rfl (lv_at hl 0 rfl) ?_
  refine lv_bipush (v := (12 : Int32)) hC.x hC.b dX2_init_69 rfl ?_
  refine lv_icmp_ge (tgt := 87) hC.x hC.b dX2_init_71 (by decide) (fun z => absurd z (by decide)) (fun _ => ?_)
  refine lv_aload_n hC.x hC.b dX2_init_74 rfl (lv_at hl 1 rfl) ?_
  refine n_getr hC hG fu_X2_9_2 h_h rfl m_h s_h rfl c_hp1 dX2_init_75 ?_
  generalize h_hp1 : ad' (h + 1) = bg
  refine lv_iload_n hC.x hC.b dX2_init_78 rfl (lv_at hl 0 rfl) ?_
  refine lv_iconst (v := (3 : Int32)) hC.x hC.b dX2_init_79 rfl ?_
  refine n_iast hC hG h_hp1 m_hp1 s_hp1 (by decide) dX2_init_80 (fun H locs hG => ?_)
  generalize hm20 : gsI mm19 (h + 1) (ix (11 : Int32)) (3 : Int32) = mm20 at hG
  have c_hp1 : gR mm20 h 0 = some (h + 1) := by rw [← hm20]; first | exact c_hp1 | (rw [gR_n (by omega)]; exact c_hp1)
  refine lv_iinc (lv' := [(1, .int (12 : Int32)), (0, .ref a0)]) (v := (12 : Int32)) hC.x hC.b dX2_init_81 hl (k := 0) rfl (by decide) (by decide) rfl (fun ls hl => ?_)
  refine lv_goto (tgt := 68) hC.x hC.b dX2_init_84 (by decide) ?_
  refine lv_iload_n hC.x hC.b dX2_init_68 rfl (lv_at hl 0 rfl) ?_
  refine lv_bipush (v := (12 : Int32)) hC.x hC.b dX2_init_69 rfl ?_
  refine lv_icmp_ge (tgt := 87) hC.x hC.b dX2_init_71 (by decide) (fun _ => ?_) (fun z => absurd (by decide) z)
  refine W.widen (k := 7) (n := 60) (by decide) (by decide) ?_
  subst hm1 hm2 hm3 hm4 hm5 hm6 hm7 hm8 hm9 hm10 hm11 hm12 hm13 hm14 hm15 hm16 hm17 hm18 hm19 hm20
  exact W.vret hC.x hC.b hr (fun t ht hW => ⟨⟨ad', ea, rfl, by rw [ht]; exact hG.2.1.1, hG.1⟩, hG.2.1.2.F ht⟩) hG.2.1.2.2.2 dX2_init_87

/-! WALKERS made -/
theorem a_X9_init : noMH yX9_init.cls ∧ arity yX9_init.desc 3 := by decide +kernel
theorem a_X1_init : noMH yX1_init.cls ∧ arity yX1_init.desc 3 := by decide +kernel
theorem a_X6_init : noMH yX6_init.cls ∧ arity yX6_init.desc 3 := by decide +kernel
theorem a_X5_init : noMH yX5_init.cls ∧ arity yX5_init.desc 3 := by decide +kernel
theorem a_X7_init : noMH yX7_init.cls ∧ arity yX7_init.desc 3 := by decide +kernel
theorem a_X0_init : noMH yX0_init.cls ∧ arity yX0_init.desc 3 := by decide +kernel
theorem a_X8_init : noMH yX8_init.cls ∧ arity yX8_init.desc 3 := by decide +kernel
theorem pu_X9_9_9 : gPu RX9 9 9 4 "[I" := ⟨RX9, TX9, 6, tyX9, "OnTiptoe$Walker", rfl, inW9, tyX9_ok, nmX9, by decide, kw229, Or.inl rfl, Or.inr ⟨rfl, rfl⟩, rfl⟩
theorem pu_X9_15_9 : gPu RX9 15 9 0 "I" := ⟨RX9, TX9, 6, tyX9, "OnTiptoe$Walker", rfl, inW9, tyX9_ok, nmX9, by decide, kw230, Or.inl rfl, Or.inr ⟨rfl, rfl⟩, rfl⟩
theorem pu_X9_19_9 : gPu RX9 19 9 1 "I" := ⟨RX9, TX9, 6, tyX9, "OnTiptoe$Walker", rfl, inW9, tyX9_ok, nmX9, by decide, kw231, Or.inl rfl, Or.inr ⟨rfl, rfl⟩, rfl⟩
theorem pu_X9_22_9 : gPu RX9 22 9 2 "I" := ⟨RX9, TX9, 6, tyX9, "OnTiptoe$Walker", rfl, inW9, tyX9_ok, nmX9, by decide, kw232, Or.inl rfl, Or.inl rfl, rfl⟩
theorem pu_X9_9_1 : gPu RX9 9 1 4 "[I" := ⟨RX1, TX1, 6, tyX1, "OnTiptoe$Walker", rfl, inW1, tyX1_ok, nmX1, by decide, kw229, Or.inl rfl, Or.inr ⟨rfl, rfl⟩, rfl⟩
theorem pu_X9_15_1 : gPu RX9 15 1 0 "I" := ⟨RX1, TX1, 6, tyX1, "OnTiptoe$Walker", rfl, inW1, tyX1_ok, nmX1, by decide, kw230, Or.inl rfl, Or.inr ⟨rfl, rfl⟩, rfl⟩
theorem pu_X9_19_1 : gPu RX9 19 1 1 "I" := ⟨RX1, TX1, 6, tyX1, "OnTiptoe$Walker", rfl, inW1, tyX1_ok, nmX1, by decide, kw231, Or.inl rfl, Or.inr ⟨rfl, rfl⟩, rfl⟩
theorem pu_X9_22_1 : gPu RX9 22 1 2 "I" := ⟨RX1, TX1, 6, tyX1, "OnTiptoe$Walker", rfl, inW1, tyX1_ok, nmX1, by decide, kw232, Or.inl rfl, Or.inl rfl, rfl⟩
theorem pu_X9_9_6 : gPu RX9 9 6 4 "[I" := ⟨RX6, TX6, 6, tyX6, "OnTiptoe$Walker", rfl, inW6, tyX6_ok, nmX6, by decide, kw229, Or.inl rfl, Or.inr ⟨rfl, rfl⟩, rfl⟩
theorem pu_X9_15_6 : gPu RX9 15 6 0 "I" := ⟨RX6, TX6, 6, tyX6, "OnTiptoe$Walker", rfl, inW6, tyX6_ok, nmX6, by decide, kw230, Or.inl rfl, Or.inr ⟨rfl, rfl⟩, rfl⟩
theorem pu_X9_19_6 : gPu RX9 19 6 1 "I" := ⟨RX6, TX6, 6, tyX6, "OnTiptoe$Walker", rfl, inW6, tyX6_ok, nmX6, by decide, kw231, Or.inl rfl, Or.inr ⟨rfl, rfl⟩, rfl⟩
theorem pu_X9_22_6 : gPu RX9 22 6 2 "I" := ⟨RX6, TX6, 6, tyX6, "OnTiptoe$Walker", rfl, inW6, tyX6_ok, nmX6, by decide, kw232, Or.inl rfl, Or.inl rfl, rfl⟩
theorem pu_X9_9_5 : gPu RX9 9 5 4 "[I" := ⟨RX5, TX5, 6, tyX5, "OnTiptoe$Walker", rfl, inW5, tyX5_ok, nmX5, by decide, kw229, Or.inl rfl, Or.inr ⟨rfl, rfl⟩, rfl⟩
theorem pu_X9_15_5 : gPu RX9 15 5 0 "I" := ⟨RX5, TX5, 6, tyX5, "OnTiptoe$Walker", rfl, inW5, tyX5_ok, nmX5, by decide, kw230, Or.inl rfl, Or.inr ⟨rfl, rfl⟩, rfl⟩
theorem pu_X9_19_5 : gPu RX9 19 5 1 "I" := ⟨RX5, TX5, 6, tyX5, "OnTiptoe$Walker", rfl, inW5, tyX5_ok, nmX5, by decide, kw231, Or.inl rfl, Or.inr ⟨rfl, rfl⟩, rfl⟩
theorem pu_X9_22_5 : gPu RX9 22 5 2 "I" := ⟨RX5, TX5, 6, tyX5, "OnTiptoe$Walker", rfl, inW5, tyX5_ok, nmX5, by decide, kw232, Or.inl rfl, Or.inl rfl, rfl⟩
theorem pu_X9_9_7 : gPu RX9 9 7 4 "[I" := ⟨RX7, TX7, 6, tyX7, "OnTiptoe$Walker", rfl, inW7, tyX7_ok, nmX7, by decide, kw229, Or.inl rfl, Or.inr ⟨rfl, rfl⟩, rfl⟩
theorem pu_X9_15_7 : gPu RX9 15 7 0 "I" := ⟨RX7, TX7, 6, tyX7, "OnTiptoe$Walker", rfl, inW7, tyX7_ok, nmX7, by decide, kw230, Or.inl rfl, Or.inr ⟨rfl, rfl⟩, rfl⟩
theorem pu_X9_19_7 : gPu RX9 19 7 1 "I" := ⟨RX7, TX7, 6, tyX7, "OnTiptoe$Walker", rfl, inW7, tyX7_ok, nmX7, by decide, kw231, Or.inl rfl, Or.inr ⟨rfl, rfl⟩, rfl⟩
theorem pu_X9_22_7 : gPu RX9 22 7 2 "I" := ⟨RX7, TX7, 6, tyX7, "OnTiptoe$Walker", rfl, inW7, tyX7_ok, nmX7, by decide, kw232, Or.inl rfl, Or.inl rfl, rfl⟩
theorem pu_X9_9_0 : gPu RX9 9 0 4 "[I" := ⟨RX0, TX0, 6, tyX0, "OnTiptoe$Walker", rfl, inW0, tyX0_ok, nmX0, by decide, kw229, Or.inl rfl, Or.inr ⟨rfl, rfl⟩, rfl⟩
theorem pu_X9_15_0 : gPu RX9 15 0 0 "I" := ⟨RX0, TX0, 6, tyX0, "OnTiptoe$Walker", rfl, inW0, tyX0_ok, nmX0, by decide, kw230, Or.inl rfl, Or.inr ⟨rfl, rfl⟩, rfl⟩
theorem pu_X9_19_0 : gPu RX9 19 0 1 "I" := ⟨RX0, TX0, 6, tyX0, "OnTiptoe$Walker", rfl, inW0, tyX0_ok, nmX0, by decide, kw231, Or.inl rfl, Or.inr ⟨rfl, rfl⟩, rfl⟩
theorem pu_X9_22_0 : gPu RX9 22 0 2 "I" := ⟨RX0, TX0, 6, tyX0, "OnTiptoe$Walker", rfl, inW0, tyX0_ok, nmX0, by decide, kw232, Or.inl rfl, Or.inl rfl, rfl⟩
theorem pu_X9_9_8 : gPu RX9 9 8 4 "[I" := ⟨RX8, TX8, 8, tyX8, "OnTiptoe$Walker", rfl, inW8, tyX8_ok, nmX8, by decide, kw229, Or.inl rfl, Or.inr ⟨rfl, rfl⟩, rfl⟩
theorem pu_X9_15_8 : gPu RX9 15 8 0 "I" := ⟨RX8, TX8, 8, tyX8, "OnTiptoe$Walker", rfl, inW8, tyX8_ok, nmX8, by decide, kw230, Or.inl rfl, Or.inr ⟨rfl, rfl⟩, rfl⟩
theorem pu_X9_19_8 : gPu RX9 19 8 1 "I" := ⟨RX8, TX8, 8, tyX8, "OnTiptoe$Walker", rfl, inW8, tyX8_ok, nmX8, by decide, kw231, Or.inl rfl, Or.inr ⟨rfl, rfl⟩, rfl⟩
theorem pu_X9_22_8 : gPu RX9 22 8 2 "I" := ⟨RX8, TX8, 8, tyX8, "OnTiptoe$Walker", rfl, inW8, tyX8_ok, nmX8, by decide, kw232, Or.inl rfl, Or.inl rfl, rfl⟩
theorem pu_X8_9_8 : gPu RX8 9 8 6 "[I" := ⟨RX8, TX8, 8, tyX8, "OnTiptoe$Told", rfl, inW8, tyX8_ok, nmX8, by decide, kw252, Or.inl rfl, Or.inr ⟨rfl, rfl⟩, rfl⟩
theorem pu_X8_13_8 : gPu RX8 13 8 7 "[I" := ⟨RX8, TX8, 8, tyX8, "OnTiptoe$Told", rfl, inW8, tyX8_ok, nmX8, by decide, kw253, Or.inl rfl, Or.inr ⟨rfl, rfl⟩, rfl⟩
def i_W9_0 (w : Nat) (p0 : Int32) (p1 : Int32) (p2 : Int32) (mem : gMem) : gMem := (gsI (gsI (gsI (gsR mem w 4 (some (w + 1))) w 0 p0) w 1 p1) w 2 p2)
theorem z_W9_0 {sh : Nat → gShp} {L : List Nat} {mem : gMem} {w : Nat} {p0 p1 p2 : Int32} (s_w : sh w = (0, 9, [0, 0, 0, 0, 1, 0])) (s_wp1 : sh (w + 1) = (1, 20, [])) (m_w : w ∈ L) (f_wp1 : w + 1 ∉ L) (hz : gZ L mem) (hc : gCl sh L mem) : gZ ((w + 1) :: L) (i_W9_0 w p0 p1 p2 mem) ∧ gCl sh ((w + 1) :: L) (i_W9_0 w p0 p1 p2 mem) := by
  have hc := gCl_up (j := w + 1) hc hz f_wp1 (by rw [s_wp1]; decide)
  have hz := gZ_up (j := w + 1) hz
  have m_wp1 := List.mem_cons_self (a := w + 1) (l := L)
  have m_w := List.mem_cons_of_mem (w + 1) m_w
  have hz := gZ_sR (o := w) (k := 4) (v := some (w + 1)) hz m_w
  have hc := gCl_sR (o := w) (k := 4) (v := some (w + 1)) hc (fun b hb => by cases hb; exact m_wp1)
  have hz := gZ_sI (o := w) (k := 0) (v := p0) hz m_w
  have hc := gCl_sI (o := w) (k := 0) (v := p0) hc
  have hz := gZ_sI (o := w) (k := 1) (v := p1) hz m_w
  have hc := gCl_sI (o := w) (k := 1) (v := p1) hc
  have hz := gZ_sI (o := w) (k := 2) (v := p2) hz m_w
  have hc := gCl_sI (o := w) (k := 2) (v := p2) hc
  exact ⟨hz, hc⟩
theorem n_W9_0 {l : Launch} {sz0 : Nat} {adK adV : Nat → Nat} {D : va_G} {cy : Nat → ClassId} {sh : Nat → gShp} {ad : Nat → Nat} {L : List Nat} {mem : gMem} {w : Nat} {p0 p1 p2 : Int32} (s_w : sh w = (0, 9, [0, 0, 0, 0, 1, 0])) (s_wp1 : sh (w + 1) = (1, 20, [])) (m_w : w ∈ L) (f_wp1 : w + 1 ∉ L) (hk : gOk ad L) (hz : gZ L mem) (hc : gCl sh L mem) (h0L : ∀ o ∈ L, sz0 ≤ ad o) : gNew l yX9_init cX9_init 4 none 1 12 1 20 (EZ sz0 adK adV) D cy sh sh ad L ((w + 1) :: L) [.ref (ad w), .int p0, .int p1, .int p2] mem (i_W9_0 w p0 p1 p2 mem) (fun _ => none) := by
  refine n_start (own := RX9) rfl rfl hk hz hc (fun sz s hs hEs => EZ_XN h0L hs hEs) (Nat.le_of_ble_eq_true rfl) (fun p e s m args below meth c R Q A ha hR hAe hA hQ hEs hC hin hr hX H locs ls hG hl => ?_)
  have hA0 : ∀ q, A q → sz0 ≤ q := by rw [hAe]; exact aA_ge h0L hEs.1
  subst hR; subst hAe; subst hQ
  have hlocks := hC.lk
  have hl : lv_has ls 4 [(0, .ref (ad w)), (1, .int p0), (2, .int p1), (3, .int p2)] := hl
  obtain ⟨a0, h_w⟩ : ∃ a, ad w = a := ⟨_, rfl⟩
  rw [h_w] at hl
  have ea : ∀ o ∈ L, ad o = ad o := fun _ _ => rfl
  refine lv_aload_n hC.x hC.b dX9_init_0 rfl (lv_at hl 0 rfl) ?_
  refine n_obj hC hl.1 kw228 ⟨by decide, by decide⟩ dX9_init_1 ?_
  refine lv_aload_n hC.x hC.b dX9_init_4 rfl (lv_at hl 0 rfl) ?_
  refine lv_bipush (v := (20 : Int32)) hC.x hC.b dX9_init_5 rfl ?_
  refine n_newI (j := w + 1) (N := 20) hC hG hA f_wp1 s_wp1 kw30 rfl (by decide) (by decide) (by decide) dX9_init_7 (fun ad' H b0 e1 hb hG => ?_)
  have h_w := (e1 _ m_w).trans h_w
  have m_w := List.mem_cons_of_mem (w + 1) m_w
  have m_wp1 := List.mem_cons_self (a := w + 1) (l := L)
  have ea : ∀ o ∈ L, _ = _ := fun o ho => (e1 o ho).trans (ea o ho)
  have h_wp1 := hb
  refine n_putr (j := w + 1) hC hin hG pu_X9_9_9 h_w h_wp1 m_wp1 m_w s_w rfl (ty := (.array .int)) (by decide +kernel) (fun q => ⟨rfl, rfl⟩) dX9_init_9 (fun H locs hG => ?_)
  generalize hm1 : gsR mem w 4 (some (w + 1)) = mm1 at hG
  refine lv_aload_n hC.x hC.b dX9_init_12 rfl (lv_at hl 0 rfl) ?_
  refine lv_iload_n hC.x hC.b dX9_init_13 rfl (lv_at hl 1 rfl) ?_
  refine n_puti hC hin hG pu_X9_15_9 h_w m_w s_w rfl dX9_init_14 (fun H locs hG => ?_)
  generalize hm2 : gsI mm1 w 0 p0 = mm2 at hG
  refine lv_aload_n hC.x hC.b dX9_init_17 rfl (lv_at hl 0 rfl) ?_
  refine lv_iload_n hC.x hC.b dX9_init_18 rfl (lv_at hl 2 rfl) ?_
  refine n_puti hC hin hG pu_X9_19_9 h_w m_w s_w rfl dX9_init_19 (fun H locs hG => ?_)
  generalize hm3 : gsI mm2 w 1 p1 = mm3 at hG
  refine lv_aload_n hC.x hC.b dX9_init_22 rfl (lv_at hl 0 rfl) ?_
  refine lv_iload_n hC.x hC.b dX9_init_23 rfl (lv_at hl 3 rfl) ?_
  refine n_puti hC hin hG pu_X9_22_9 h_w m_w s_w rfl dX9_init_24 (fun H locs hG => ?_)
  generalize hm4 : gsI mm3 w 2 p2 = mm4 at hG
  refine W.widen (k := 1) (n := 20) (by decide) (by decide) ?_
  subst hm1 hm2 hm3 hm4
  exact W.vret hC.x hC.b hr (fun t ht hW => ⟨⟨ad', ea, rfl, by rw [ht]; exact hG.2.1.1, hG.1⟩, hG.2.1.2.F ht⟩) hG.2.1.2.2.2 dX9_init_27
def i_NW_0 (w : Nat) (p0 : Int32) (p1 : Int32) (p2 : Int32) (mem : gMem) : gMem := (i_W9_0 w p0 p1 p2 mem)
theorem z_NW_0 {sh : Nat → gShp} {L : List Nat} {mem : gMem} {w : Nat} {p0 p1 p2 : Int32} (s_w : sh w = (0, 9, [0, 0, 0, 0, 1, 0])) (s_wp1 : sh (w + 1) = (1, 20, [])) (f_w : w ∉ L) (f_wp1 : w + 1 ∉ L) (hz : gZ L mem) (hc : gCl sh L mem) : gZ ((w + 1) :: w :: L) (i_NW_0 w p0 p1 p2 mem) ∧ gCl sh ((w + 1) :: w :: L) (i_NW_0 w p0 p1 p2 mem) := by
  have hc := gCl_up (j := w) hc hz f_w (by rw [s_w]; decide)
  have hz := gZ_up (j := w) hz
  have m_w := List.mem_cons_self (a := w) (l := L)
  have f_wp1 : w + 1 ∉ w :: L := fun z => (List.mem_cons.mp z).elim (fun z => by omega) f_wp1
  have hzc := z_W9_0 (p0 := p0) (p1 := p1) (p2 := p2) s_w s_wp1 m_w f_wp1 hz hc
  have hz := hzc.1
  have hc := hzc.2
  have m_w := List.mem_cons_of_mem (w + 1) m_w
  have m_wp1 := List.mem_cons_self (a := w + 1) (l := w :: L)
  exact ⟨hz, hc⟩
theorem n_NW_0 {l : Launch} {sz0 : Nat} {adK adV : Nat → Nat} {D : va_G} {cy : Nat → ClassId} {sh : Nat → gShp} {ad : Nat → Nat} {L : List Nat} {mem : gMem} {w : Nat} {p0 p1 p2 : Int32} (s_w : sh w = (0, 9, [0, 0, 0, 0, 1, 0])) (s_wp1 : sh (w + 1) = (1, 20, [])) (f_w : w ∉ L) (f_wp1 : w + 1 ∉ L) (hk : gOk ad L) (hz : gZ L mem) (hc : gCl sh L mem) (h0L : ∀ o ∈ L, sz0 ≤ ad o) : gNew l yX11_newWalker cX11_newWalker 4 ((some (.object "OnTiptoe$Walker"))) 2 35 2 26 (EZ sz0 adK adV) D cy sh sh ad L ((w + 1) :: w :: L) [.int (0 : Int32), .int p0, .int p1, .int p2] mem (i_NW_0 w p0 p1 p2 mem) (fun z => some (.ref (z w))) := by
  refine n_start (own := RX11) rfl rfl hk hz hc (fun sz s hs hEs => EZ_XN h0L hs hEs) (Nat.le_of_ble_eq_true rfl) (fun p e s m args below meth c R Q A ha hR hAe hA hQ hEs hC hin hr hX H locs ls hG hl => ?_)
  have hA0 : ∀ q, A q → sz0 ≤ q := by rw [hAe]; exact aA_ge h0L hEs.1
  subst hR; subst hAe; subst hQ
  have hlocks := hC.lk
  have hl : lv_has ls 4 [(0, .int (0 : Int32)), (1, .int p0), (2, .int p1), (3, .int p2)] := hl
  have ea : ∀ o ∈ L, ad o = ad o := fun _ _ => rfl
  refine lv_iload_n hC.x hC.b dX11_newWalker_0 rfl (lv_at hl 0 rfl) ?_
  refine lv_tableOut (tgt := 106) hC.x hC.b dX11_newWalker_1 (by decide) (by decide) ?_
  refine n_new (j := w) (ty := tyX9) hC hG hA f_w s_w (nc2 rfl) rfl inW9 tyX9_ok (fun k hk => by rcases (show k = 0 ∨ k = 1 ∨ k = 2 ∨ k = 3 ∨ k = 4 ∨ k = 5 by omega) with rfl | rfl | rfl | rfl | rfl | rfl <;> rfl) kw18 kw220 kw221 (by decide) (by decide) dX11_newWalker_106 (fun ad' H b0 e1 hb hG => ?_)
  have m_w := List.mem_cons_self (a := w) (l := L)
  have f_wp1 : w + 1 ∉ w :: L := fun z => (List.mem_cons.mp z).elim (fun z => by omega) f_wp1
  have ea : ∀ o ∈ L, _ = _ := fun o ho => (e1 o ho).trans (ea o ho)
  have h_w := hb
  refine lv_dup hC.x hC.b dX11_newWalker_109 rfl ?_
  refine lv_iload_n hC.x hC.b dX11_newWalker_110 rfl (lv_at hl 1 rfl) ?_
  refine lv_iload_n hC.x hC.b dX11_newWalker_111 rfl (lv_at hl 2 rfl) ?_
  refine lv_iload_n hC.x hC.b dX11_newWalker_112 rfl (lv_at hl 3 rfl) ?_
  refine n_init (b := b0) (As := [.int p0, .int p1, .int p2]) (rest := [.ref b0]) (mc := 1) (ms := 20) hC hX EZ_bl hG hA (z_W9_0 (p0 := p0) (p1 := p1) (p2 := p2) s_w s_wp1 m_w f_wp1 hG.2.2.1 hG.2.2.2).1 (z_W9_0 (p0 := p0) (p1 := p1) (p2 := p2) s_w s_wp1 m_w f_wp1 hG.2.2.1 hG.2.2.2).2 (by rw [← h_w]; exact n_W9_0 s_w s_wp1 m_w f_wp1 hG.1.1 hG.2.2.1 hG.2.2.2 (fun o ho => hA0 _ (hG.1.2 o ho))) kw255 kw226 kw221 kw227 rfl a_X9_init.1 a_X9_init.2 rfl hl.1 ⟨by decide, by decide, by decide, by decide⟩ (Nat.le_of_ble_eq_true rfl) dX11_newWalker_113 (fun ad' H locs e1 hG => ?_)
  have h_w := (e1 _ m_w).trans h_w
  have ea : ∀ o ∈ L, _ = _ := fun o ho => (e1 o (List.mem_cons_of_mem _ ho)).trans (ea o ho)
  have m_w := List.mem_cons_of_mem (w + 1) m_w
  have m_wp1 := List.mem_cons_self (a := w + 1) (l := w :: L)
  generalize hm1 : i_W9_0 w p0 p1 p2 mem = mm1 at hG
  refine W.widen (k := 2) (n := 26) (by decide) (by decide) ?_
  subst hm1
  have hq : ∀ t : State, t.heap = _ → s.WarmedH t.vm → gNw (EZ sz0 adK adV) D cy sh ad L ((w + 1) :: w :: L) _ (fun z => some (.ref (z w))) s.heap.size args s (.returned (some (.ref b0))) t := fun t ht hW => ⟨⟨ad', ea, (by show _ = Outcome.returned (some (Value.ref (ad' w))); rw [h_w]), by rw [ht]; exact hG.2.1.1, hG.1⟩, hG.2.1.2.F ht⟩
  exact W.aret hC.x hC.b hr (Or.inl ⟨_, rfl⟩) (Or.inr ⟨_, rfl⟩) hq hG.2.1.2.2.2 dX11_newWalker_116
def i_W9_1 (w : Nat) (p0 : Int32) (p1 : Int32) (p2 : Int32) (mem : gMem) : gMem := (gsI (gsI (gsI (gsR mem w 4 (some (w + 1))) w 0 p0) w 1 p1) w 2 p2)
theorem z_W9_1 {sh : Nat → gShp} {L : List Nat} {mem : gMem} {w : Nat} {p0 p1 p2 : Int32} (s_w : sh w = (0, 1, [0, 0, 0, 0, 1, 0])) (s_wp1 : sh (w + 1) = (1, 20, [])) (m_w : w ∈ L) (f_wp1 : w + 1 ∉ L) (hz : gZ L mem) (hc : gCl sh L mem) : gZ ((w + 1) :: L) (i_W9_1 w p0 p1 p2 mem) ∧ gCl sh ((w + 1) :: L) (i_W9_1 w p0 p1 p2 mem) := by
  have hc := gCl_up (j := w + 1) hc hz f_wp1 (by rw [s_wp1]; decide)
  have hz := gZ_up (j := w + 1) hz
  have m_wp1 := List.mem_cons_self (a := w + 1) (l := L)
  have m_w := List.mem_cons_of_mem (w + 1) m_w
  have hz := gZ_sR (o := w) (k := 4) (v := some (w + 1)) hz m_w
  have hc := gCl_sR (o := w) (k := 4) (v := some (w + 1)) hc (fun b hb => by cases hb; exact m_wp1)
  have hz := gZ_sI (o := w) (k := 0) (v := p0) hz m_w
  have hc := gCl_sI (o := w) (k := 0) (v := p0) hc
  have hz := gZ_sI (o := w) (k := 1) (v := p1) hz m_w
  have hc := gCl_sI (o := w) (k := 1) (v := p1) hc
  have hz := gZ_sI (o := w) (k := 2) (v := p2) hz m_w
  have hc := gCl_sI (o := w) (k := 2) (v := p2) hc
  exact ⟨hz, hc⟩
theorem n_W9_1 {l : Launch} {sz0 : Nat} {adK adV : Nat → Nat} {D : va_G} {cy : Nat → ClassId} {sh : Nat → gShp} {ad : Nat → Nat} {L : List Nat} {mem : gMem} {w : Nat} {p0 p1 p2 : Int32} (s_w : sh w = (0, 1, [0, 0, 0, 0, 1, 0])) (s_wp1 : sh (w + 1) = (1, 20, [])) (m_w : w ∈ L) (f_wp1 : w + 1 ∉ L) (hk : gOk ad L) (hz : gZ L mem) (hc : gCl sh L mem) (h0L : ∀ o ∈ L, sz0 ≤ ad o) : gNew l yX9_init cX9_init 4 none 1 12 1 20 (EZ sz0 adK adV) D cy sh sh ad L ((w + 1) :: L) [.ref (ad w), .int p0, .int p1, .int p2] mem (i_W9_1 w p0 p1 p2 mem) (fun _ => none) := by
  refine n_start (own := RX9) rfl rfl hk hz hc (fun sz s hs hEs => EZ_XN h0L hs hEs) (Nat.le_of_ble_eq_true rfl) (fun p e s m args below meth c R Q A ha hR hAe hA hQ hEs hC hin hr hX H locs ls hG hl => ?_)
  have hA0 : ∀ q, A q → sz0 ≤ q := by rw [hAe]; exact aA_ge h0L hEs.1
  subst hR; subst hAe; subst hQ
  have hlocks := hC.lk
  have hl : lv_has ls 4 [(0, .ref (ad w)), (1, .int p0), (2, .int p1), (3, .int p2)] := hl
  obtain ⟨a0, h_w⟩ : ∃ a, ad w = a := ⟨_, rfl⟩
  rw [h_w] at hl
  have ea : ∀ o ∈ L, ad o = ad o := fun _ _ => rfl
  refine lv_aload_n hC.x hC.b dX9_init_0 rfl (lv_at hl 0 rfl) ?_
  refine n_obj hC hl.1 kw228 ⟨by decide, by decide⟩ dX9_init_1 ?_
  refine lv_aload_n hC.x hC.b dX9_init_4 rfl (lv_at hl 0 rfl) ?_
  refine lv_bipush (v := (20 : Int32)) hC.x hC.b dX9_init_5 rfl ?_
  refine n_newI (j := w + 1) (N := 20) hC hG hA f_wp1 s_wp1 kw30 rfl (by decide) (by decide) (by decide) dX9_init_7 (fun ad' H b0 e1 hb hG => ?_)
  have h_w := (e1 _ m_w).trans h_w
  have m_w := List.mem_cons_of_mem (w + 1) m_w
  have m_wp1 := List.mem_cons_self (a := w + 1) (l := L)
  have ea : ∀ o ∈ L, _ = _ := fun o ho => (e1 o ho).trans (ea o ho)
  have h_wp1 := hb
  refine n_putr (j := w + 1) hC hin hG pu_X9_9_1 h_w h_wp1 m_wp1 m_w s_w rfl (ty := (.array .int)) (by decide +kernel) (fun q => ⟨rfl, rfl⟩) dX9_init_9 (fun H locs hG => ?_)
  generalize hm1 : gsR mem w 4 (some (w + 1)) = mm1 at hG
  refine lv_aload_n hC.x hC.b dX9_init_12 rfl (lv_at hl 0 rfl) ?_
  refine lv_iload_n hC.x hC.b dX9_init_13 rfl (lv_at hl 1 rfl) ?_
  refine n_puti hC hin hG pu_X9_15_1 h_w m_w s_w rfl dX9_init_14 (fun H locs hG => ?_)
  generalize hm2 : gsI mm1 w 0 p0 = mm2 at hG
  refine lv_aload_n hC.x hC.b dX9_init_17 rfl (lv_at hl 0 rfl) ?_
  refine lv_iload_n hC.x hC.b dX9_init_18 rfl (lv_at hl 2 rfl) ?_
  refine n_puti hC hin hG pu_X9_19_1 h_w m_w s_w rfl dX9_init_19 (fun H locs hG => ?_)
  generalize hm3 : gsI mm2 w 1 p1 = mm3 at hG
  refine lv_aload_n hC.x hC.b dX9_init_22 rfl (lv_at hl 0 rfl) ?_
  refine lv_iload_n hC.x hC.b dX9_init_23 rfl (lv_at hl 3 rfl) ?_
  refine n_puti hC hin hG pu_X9_22_1 h_w m_w s_w rfl dX9_init_24 (fun H locs hG => ?_)
  generalize hm4 : gsI mm3 w 2 p2 = mm4 at hG
  refine W.widen (k := 1) (n := 20) (by decide) (by decide) ?_
  subst hm1 hm2 hm3 hm4
  exact W.vret hC.x hC.b hr (fun t ht hW => ⟨⟨ad', ea, rfl, by rw [ht]; exact hG.2.1.1, hG.1⟩, hG.2.1.2.F ht⟩) hG.2.1.2.2.2 dX9_init_27
def i_W1_1 (w : Nat) (p0 : Int32) (p1 : Int32) (p2 : Int32) (mem : gMem) : gMem := (i_W9_1 w p0 p1 p2 mem)
theorem z_W1_1 {sh : Nat → gShp} {L : List Nat} {mem : gMem} {w : Nat} {p0 p1 p2 : Int32} (s_w : sh w = (0, 1, [0, 0, 0, 0, 1, 0])) (s_wp1 : sh (w + 1) = (1, 20, [])) (m_w : w ∈ L) (f_wp1 : w + 1 ∉ L) (hz : gZ L mem) (hc : gCl sh L mem) : gZ ((w + 1) :: L) (i_W1_1 w p0 p1 p2 mem) ∧ gCl sh ((w + 1) :: L) (i_W1_1 w p0 p1 p2 mem) := by
  have hzc := z_W9_1 (p0 := p0) (p1 := p1) (p2 := p2) s_w s_wp1 m_w f_wp1 hz hc
  have hz := hzc.1
  have hc := hzc.2
  have m_w := List.mem_cons_of_mem (w + 1) m_w
  have m_wp1 := List.mem_cons_self (a := w + 1) (l := L)
  exact ⟨hz, hc⟩
theorem n_W1_1 {l : Launch} {sz0 : Nat} {adK adV : Nat → Nat} {D : va_G} {cy : Nat → ClassId} {sh : Nat → gShp} {ad : Nat → Nat} {L : List Nat} {mem : gMem} {w : Nat} {p0 p1 p2 : Int32} (s_w : sh w = (0, 1, [0, 0, 0, 0, 1, 0])) (s_wp1 : sh (w + 1) = (1, 20, [])) (m_w : w ∈ L) (f_wp1 : w + 1 ∉ L) (hk : gOk ad L) (hz : gZ L mem) (hc : gCl sh L mem) (h0L : ∀ o ∈ L, sz0 ≤ ad o) : gNew l yX1_init cX1_init 4 none 2 35 1 20 (EZ sz0 adK adV) D cy sh sh ad L ((w + 1) :: L) [.ref (ad w), .int p0, .int p1, .int p2] mem (i_W1_1 w p0 p1 p2 mem) (fun _ => none) := by
  refine n_start (own := RX1) rfl rfl hk hz hc (fun sz s hs hEs => EZ_XN h0L hs hEs) (Nat.le_of_ble_eq_true rfl) (fun p e s m args below meth c R Q A ha hR hAe hA hQ hEs hC hin hr hX H locs ls hG hl => ?_)
  have hA0 : ∀ q, A q → sz0 ≤ q := by rw [hAe]; exact aA_ge h0L hEs.1
  subst hR; subst hAe; subst hQ
  have hlocks := hC.lk
  have hl : lv_has ls 4 [(0, .ref (ad w)), (1, .int p0), (2, .int p1), (3, .int p2)] := hl
  obtain ⟨a0, h_w⟩ : ∃ a, ad w = a := ⟨_, rfl⟩
  rw [h_w] at hl
  have ea : ∀ o ∈ L, ad o = ad o := fun _ _ => rfl
  refine lv_aload_n hC.x hC.b dX1_init_0 rfl (lv_at hl 0 rfl) ?_
  refine lv_iload_n hC.x hC.b dX1_init_1 rfl (lv_at hl 1 rfl) ?_
  refine lv_iload_n hC.x hC.b dX1_init_2 rfl (lv_at hl 2 rfl) ?_
  refine lv_iload_n hC.x hC.b dX1_init_3 rfl (lv_at hl 3 rfl) ?_
  refine n_init (b := a0) (As := [.int p0, .int p1, .int p2]) (rest := []) (mc := 1) (ms := 20) hC hX EZ_bl hG hA (z_W9_1 (p0 := p0) (p1 := p1) (p2 := p2) s_w s_wp1 m_w f_wp1 hG.2.2.1 hG.2.2.2).1 (z_W9_1 (p0 := p0) (p1 := p1) (p2 := p2) s_w s_wp1 m_w f_wp1 hG.2.2.1 hG.2.2.2).2 (by rw [← h_w]; exact n_W9_1 s_w s_wp1 m_w f_wp1 hG.1.1 hG.2.2.1 hG.2.2.2 (fun o ho => hA0 _ (hG.1.2 o ho))) kw225 kw226 kw221 kw227 rfl a_X9_init.1 a_X9_init.2 rfl hl.1 ⟨by decide, by decide, by decide, by decide⟩ (Nat.le_of_ble_eq_true rfl) dX1_init_4 (fun ad' H locs e1 hG => ?_)
  have h_w := (e1 _ m_w).trans h_w
  have ea : ∀ o ∈ L, _ = _ := fun o ho => (e1 o ho).trans (ea o ho)
  have m_w := List.mem_cons_of_mem (w + 1) m_w
  have m_wp1 := List.mem_cons_self (a := w + 1) (l := L)
  generalize hm1 : i_W9_1 w p0 p1 p2 mem = mm1 at hG
  refine W.widen (k := 1) (n := 20) (by decide) (by decide) ?_
  subst hm1
  exact W.vret hC.x hC.b hr (fun t ht hW => ⟨⟨ad', ea, rfl, by rw [ht]; exact hG.2.1.1, hG.1⟩, hG.2.1.2.F ht⟩) hG.2.1.2.2.2 dX1_init_7
def i_NW_1 (w : Nat) (p0 : Int32) (p1 : Int32) (p2 : Int32) (mem : gMem) : gMem := (i_W1_1 w p0 p1 p2 mem)
theorem z_NW_1 {sh : Nat → gShp} {L : List Nat} {mem : gMem} {w : Nat} {p0 p1 p2 : Int32} (s_w : sh w = (0, 1, [0, 0, 0, 0, 1, 0])) (s_wp1 : sh (w + 1) = (1, 20, [])) (f_w : w ∉ L) (f_wp1 : w + 1 ∉ L) (hz : gZ L mem) (hc : gCl sh L mem) : gZ ((w + 1) :: w :: L) (i_NW_1 w p0 p1 p2 mem) ∧ gCl sh ((w + 1) :: w :: L) (i_NW_1 w p0 p1 p2 mem) := by
  have hc := gCl_up (j := w) hc hz f_w (by rw [s_w]; decide)
  have hz := gZ_up (j := w) hz
  have m_w := List.mem_cons_self (a := w) (l := L)
  have f_wp1 : w + 1 ∉ w :: L := fun z => (List.mem_cons.mp z).elim (fun z => by omega) f_wp1
  have hzc := z_W1_1 (p0 := p0) (p1 := p1) (p2 := p2) s_w s_wp1 m_w f_wp1 hz hc
  have hz := hzc.1
  have hc := hzc.2
  have m_w := List.mem_cons_of_mem (w + 1) m_w
  have m_wp1 := List.mem_cons_self (a := w + 1) (l := w :: L)
  exact ⟨hz, hc⟩
theorem n_NW_1 {l : Launch} {sz0 : Nat} {adK adV : Nat → Nat} {D : va_G} {cy : Nat → ClassId} {sh : Nat → gShp} {ad : Nat → Nat} {L : List Nat} {mem : gMem} {w : Nat} {p0 p1 p2 : Int32} (s_w : sh w = (0, 1, [0, 0, 0, 0, 1, 0])) (s_wp1 : sh (w + 1) = (1, 20, [])) (f_w : w ∉ L) (f_wp1 : w + 1 ∉ L) (hk : gOk ad L) (hz : gZ L mem) (hc : gCl sh L mem) (h0L : ∀ o ∈ L, sz0 ≤ ad o) : gNew l yX11_newWalker cX11_newWalker 4 ((some (.object "OnTiptoe$Walker"))) 3 58 2 26 (EZ sz0 adK adV) D cy sh sh ad L ((w + 1) :: w :: L) [.int (1 : Int32), .int p0, .int p1, .int p2] mem (i_NW_1 w p0 p1 p2 mem) (fun z => some (.ref (z w))) := by
  refine n_start (own := RX11) rfl rfl hk hz hc (fun sz s hs hEs => EZ_XN h0L hs hEs) (Nat.le_of_ble_eq_true rfl) (fun p e s m args below meth c R Q A ha hR hAe hA hQ hEs hC hin hr hX H locs ls hG hl => ?_)
  have hA0 : ∀ q, A q → sz0 ≤ q := by rw [hAe]; exact aA_ge h0L hEs.1
  subst hR; subst hAe; subst hQ
  have hlocks := hC.lk
  have hl : lv_has ls 4 [(0, .int (1 : Int32)), (1, .int p0), (2, .int p1), (3, .int p2)] := hl
  have ea : ∀ o ∈ L, ad o = ad o := fun _ _ => rfl
  refine lv_iload_n hC.x hC.b dX11_newWalker_0 rfl (lv_at hl 0 rfl) ?_
  refine lv_tableIn (off := 39) (tgt := 40) hC.x hC.b dX11_newWalker_1 (by decide) (by decide) (by decide +kernel) (by decide) ?_
  refine n_new (j := w) (ty := tyX1) hC hG hA f_w s_w (nc2 rfl) rfl inW1 tyX1_ok (fun k hk => by rcases (show k = 0 ∨ k = 1 ∨ k = 2 ∨ k = 3 ∨ k = 4 ∨ k = 5 by omega) with rfl | rfl | rfl | rfl | rfl | rfl <;> rfl) kw202 kw203 kw204 (by decide) (by decide) dX11_newWalker_40 (fun ad' H b0 e1 hb hG => ?_)
  have m_w := List.mem_cons_self (a := w) (l := L)
  have f_wp1 : w + 1 ∉ w :: L := fun z => (List.mem_cons.mp z).elim (fun z => by omega) f_wp1
  have ea : ∀ o ∈ L, _ = _ := fun o ho => (e1 o ho).trans (ea o ho)
  have h_w := hb
  refine lv_dup hC.x hC.b dX11_newWalker_43 rfl ?_
  refine lv_iload_n hC.x hC.b dX11_newWalker_44 rfl (lv_at hl 1 rfl) ?_
  refine lv_iload_n hC.x hC.b dX11_newWalker_45 rfl (lv_at hl 2 rfl) ?_
  refine lv_iload_n hC.x hC.b dX11_newWalker_46 rfl (lv_at hl 3 rfl) ?_
  refine n_init (b := b0) (As := [.int p0, .int p1, .int p2]) (rest := [.ref b0]) (mc := 1) (ms := 20) hC hX EZ_bl hG hA (z_W1_1 (p0 := p0) (p1 := p1) (p2 := p2) s_w s_wp1 m_w f_wp1 hG.2.2.1 hG.2.2.2).1 (z_W1_1 (p0 := p0) (p1 := p1) (p2 := p2) s_w s_wp1 m_w f_wp1 hG.2.2.1 hG.2.2.2).2 (by rw [← h_w]; exact n_W1_1 s_w s_wp1 m_w f_wp1 hG.1.1 hG.2.2.1 hG.2.2.2 (fun o ho => hA0 _ (hG.1.2 o ho))) kw222 kw223 kw204 kw224 rfl a_X1_init.1 a_X1_init.2 rfl hl.1 ⟨by decide, by decide, by decide, by decide⟩ (Nat.le_of_ble_eq_true rfl) dX11_newWalker_47 (fun ad' H locs e1 hG => ?_)
  have h_w := (e1 _ m_w).trans h_w
  have ea : ∀ o ∈ L, _ = _ := fun o ho => (e1 o (List.mem_cons_of_mem _ ho)).trans (ea o ho)
  have m_w := List.mem_cons_of_mem (w + 1) m_w
  have m_wp1 := List.mem_cons_self (a := w + 1) (l := w :: L)
  generalize hm1 : i_W1_1 w p0 p1 p2 mem = mm1 at hG
  refine W.widen (k := 2) (n := 26) (by decide) (by decide) ?_
  subst hm1
  have hq : ∀ t : State, t.heap = _ → s.WarmedH t.vm → gNw (EZ sz0 adK adV) D cy sh ad L ((w + 1) :: w :: L) _ (fun z => some (.ref (z w))) s.heap.size args s (.returned (some (.ref b0))) t := fun t ht hW => ⟨⟨ad', ea, (by show _ = Outcome.returned (some (Value.ref (ad' w))); rw [h_w]), by rw [ht]; exact hG.2.1.1, hG.1⟩, hG.2.1.2.F ht⟩
  exact W.aret hC.x hC.b hr (Or.inl ⟨_, rfl⟩) (Or.inr ⟨_, rfl⟩) hq hG.2.1.2.2.2 dX11_newWalker_50
def i_W9_2 (w : Nat) (p0 : Int32) (p1 : Int32) (p2 : Int32) (mem : gMem) : gMem := (gsI (gsI (gsI (gsR mem w 4 (some (w + 1))) w 0 p0) w 1 p1) w 2 p2)
theorem z_W9_2 {sh : Nat → gShp} {L : List Nat} {mem : gMem} {w : Nat} {p0 p1 p2 : Int32} (s_w : sh w = (0, 6, [0, 0, 0, 0, 1, 0])) (s_wp1 : sh (w + 1) = (1, 20, [])) (m_w : w ∈ L) (f_wp1 : w + 1 ∉ L) (hz : gZ L mem) (hc : gCl sh L mem) : gZ ((w + 1) :: L) (i_W9_2 w p0 p1 p2 mem) ∧ gCl sh ((w + 1) :: L) (i_W9_2 w p0 p1 p2 mem) := by
  have hc := gCl_up (j := w + 1) hc hz f_wp1 (by rw [s_wp1]; decide)
  have hz := gZ_up (j := w + 1) hz
  have m_wp1 := List.mem_cons_self (a := w + 1) (l := L)
  have m_w := List.mem_cons_of_mem (w + 1) m_w
  have hz := gZ_sR (o := w) (k := 4) (v := some (w + 1)) hz m_w
  have hc := gCl_sR (o := w) (k := 4) (v := some (w + 1)) hc (fun b hb => by cases hb; exact m_wp1)
  have hz := gZ_sI (o := w) (k := 0) (v := p0) hz m_w
  have hc := gCl_sI (o := w) (k := 0) (v := p0) hc
  have hz := gZ_sI (o := w) (k := 1) (v := p1) hz m_w
  have hc := gCl_sI (o := w) (k := 1) (v := p1) hc
  have hz := gZ_sI (o := w) (k := 2) (v := p2) hz m_w
  have hc := gCl_sI (o := w) (k := 2) (v := p2) hc
  exact ⟨hz, hc⟩
theorem n_W9_2 {l : Launch} {sz0 : Nat} {adK adV : Nat → Nat} {D : va_G} {cy : Nat → ClassId} {sh : Nat → gShp} {ad : Nat → Nat} {L : List Nat} {mem : gMem} {w : Nat} {p0 p1 p2 : Int32} (s_w : sh w = (0, 6, [0, 0, 0, 0, 1, 0])) (s_wp1 : sh (w + 1) = (1, 20, [])) (m_w : w ∈ L) (f_wp1 : w + 1 ∉ L) (hk : gOk ad L) (hz : gZ L mem) (hc : gCl sh L mem) (h0L : ∀ o ∈ L, sz0 ≤ ad o) : gNew l yX9_init cX9_init 4 none 1 12 1 20 (EZ sz0 adK adV) D cy sh sh ad L ((w + 1) :: L) [.ref (ad w), .int p0, .int p1, .int p2] mem (i_W9_2 w p0 p1 p2 mem) (fun _ => none) := by
  refine n_start (own := RX9) rfl rfl hk hz hc (fun sz s hs hEs => EZ_XN h0L hs hEs) (Nat.le_of_ble_eq_true rfl) (fun p e s m args below meth c R Q A ha hR hAe hA hQ hEs hC hin hr hX H locs ls hG hl => ?_)
  have hA0 : ∀ q, A q → sz0 ≤ q := by rw [hAe]; exact aA_ge h0L hEs.1
  subst hR; subst hAe; subst hQ
  have hlocks := hC.lk
  have hl : lv_has ls 4 [(0, .ref (ad w)), (1, .int p0), (2, .int p1), (3, .int p2)] := hl
  obtain ⟨a0, h_w⟩ : ∃ a, ad w = a := ⟨_, rfl⟩
  rw [h_w] at hl
  have ea : ∀ o ∈ L, ad o = ad o := fun _ _ => rfl
  refine lv_aload_n hC.x hC.b dX9_init_0 rfl (lv_at hl 0 rfl) ?_
  refine n_obj hC hl.1 kw228 ⟨by decide, by decide⟩ dX9_init_1 ?_
  refine lv_aload_n hC.x hC.b dX9_init_4 rfl (lv_at hl 0 rfl) ?_
  refine lv_bipush (v := (20 : Int32)) hC.x hC.b dX9_init_5 rfl ?_
  refine n_newI (j := w + 1) (N := 20) hC hG hA f_wp1 s_wp1 kw30 rfl (by decide) (by decide) (by decide) dX9_init_7 (fun ad' H b0 e1 hb hG => ?_)
  have h_w := (e1 _ m_w).trans h_w
  have m_w := List.mem_cons_of_mem (w + 1) m_w
  have m_wp1 := List.mem_cons_self (a := w + 1) (l := L)
  have ea : ∀ o ∈ L, _ = _ := fun o ho => (e1 o ho).trans (ea o ho)
  have h_wp1 := hb
  refine n_putr (j := w + 1) hC hin hG pu_X9_9_6 h_w h_wp1 m_wp1 m_w s_w rfl (ty := (.array .int)) (by decide +kernel) (fun q => ⟨rfl, rfl⟩) dX9_init_9 (fun H locs hG => ?_)
  generalize hm1 : gsR mem w 4 (some (w + 1)) = mm1 at hG
  refine lv_aload_n hC.x hC.b dX9_init_12 rfl (lv_at hl 0 rfl) ?_
  refine lv_iload_n hC.x hC.b dX9_init_13 rfl (lv_at hl 1 rfl) ?_
  refine n_puti hC hin hG pu_X9_15_6 h_w m_w s_w rfl dX9_init_14 (fun H locs hG => ?_)
  generalize hm2 : gsI mm1 w 0 p0 = mm2 at hG
  refine lv_aload_n hC.x hC.b dX9_init_17 rfl (lv_at hl 0 rfl) ?_
  refine lv_iload_n hC.x hC.b dX9_init_18 rfl (lv_at hl 2 rfl) ?_
  refine n_puti hC hin hG pu_X9_19_6 h_w m_w s_w rfl dX9_init_19 (fun H locs hG => ?_)
  generalize hm3 : gsI mm2 w 1 p1 = mm3 at hG
  refine lv_aload_n hC.x hC.b dX9_init_22 rfl (lv_at hl 0 rfl) ?_
  refine lv_iload_n hC.x hC.b dX9_init_23 rfl (lv_at hl 3 rfl) ?_
  refine n_puti hC hin hG pu_X9_22_6 h_w m_w s_w rfl dX9_init_24 (fun H locs hG => ?_)
  generalize hm4 : gsI mm3 w 2 p2 = mm4 at hG
  refine W.widen (k := 1) (n := 20) (by decide) (by decide) ?_
  subst hm1 hm2 hm3 hm4
  exact W.vret hC.x hC.b hr (fun t ht hW => ⟨⟨ad', ea, rfl, by rw [ht]; exact hG.2.1.1, hG.1⟩, hG.2.1.2.F ht⟩) hG.2.1.2.2.2 dX9_init_27
def i_W6_2 (w : Nat) (p0 : Int32) (p1 : Int32) (p2 : Int32) (mem : gMem) : gMem := (i_W9_2 w p0 p1 p2 mem)
theorem z_W6_2 {sh : Nat → gShp} {L : List Nat} {mem : gMem} {w : Nat} {p0 p1 p2 : Int32} (s_w : sh w = (0, 6, [0, 0, 0, 0, 1, 0])) (s_wp1 : sh (w + 1) = (1, 20, [])) (m_w : w ∈ L) (f_wp1 : w + 1 ∉ L) (hz : gZ L mem) (hc : gCl sh L mem) : gZ ((w + 1) :: L) (i_W6_2 w p0 p1 p2 mem) ∧ gCl sh ((w + 1) :: L) (i_W6_2 w p0 p1 p2 mem) := by
  have hzc := z_W9_2 (p0 := p0) (p1 := p1) (p2 := p2) s_w s_wp1 m_w f_wp1 hz hc
  have hz := hzc.1
  have hc := hzc.2
  have m_w := List.mem_cons_of_mem (w + 1) m_w
  have m_wp1 := List.mem_cons_self (a := w + 1) (l := L)
  exact ⟨hz, hc⟩
theorem n_W6_2 {l : Launch} {sz0 : Nat} {adK adV : Nat → Nat} {D : va_G} {cy : Nat → ClassId} {sh : Nat → gShp} {ad : Nat → Nat} {L : List Nat} {mem : gMem} {w : Nat} {p0 p1 p2 : Int32} (s_w : sh w = (0, 6, [0, 0, 0, 0, 1, 0])) (s_wp1 : sh (w + 1) = (1, 20, [])) (m_w : w ∈ L) (f_wp1 : w + 1 ∉ L) (hk : gOk ad L) (hz : gZ L mem) (hc : gCl sh L mem) (h0L : ∀ o ∈ L, sz0 ≤ ad o) : gNew l yX6_init cX6_init 4 none 2 35 1 20 (EZ sz0 adK adV) D cy sh sh ad L ((w + 1) :: L) [.ref (ad w), .int p0, .int p1, .int p2] mem (i_W6_2 w p0 p1 p2 mem) (fun _ => none) := by
  refine n_start (own := RX6) rfl rfl hk hz hc (fun sz s hs hEs => EZ_XN h0L hs hEs) (Nat.le_of_ble_eq_true rfl) (fun p e s m args below meth c R Q A ha hR hAe hA hQ hEs hC hin hr hX H locs ls hG hl => ?_)
  have hA0 : ∀ q, A q → sz0 ≤ q := by rw [hAe]; exact aA_ge h0L hEs.1
  subst hR; subst hAe; subst hQ
  have hlocks := hC.lk
  have hl : lv_has ls 4 [(0, .ref (ad w)), (1, .int p0), (2, .int p1), (3, .int p2)] := hl
  obtain ⟨a0, h_w⟩ : ∃ a, ad w = a := ⟨_, rfl⟩
  rw [h_w] at hl
  have ea : ∀ o ∈ L, ad o = ad o := fun _ _ => rfl
  refine lv_aload_n hC.x hC.b dX6_init_0 rfl (lv_at hl 0 rfl) ?_
  refine lv_iload_n hC.x hC.b dX6_init_1 rfl (lv_at hl 1 rfl) ?_
  refine lv_iload_n hC.x hC.b dX6_init_2 rfl (lv_at hl 2 rfl) ?_
  refine lv_iload_n hC.x hC.b dX6_init_3 rfl (lv_at hl 3 rfl) ?_
  refine n_init (b := a0) (As := [.int p0, .int p1, .int p2]) (rest := []) (mc := 1) (ms := 20) hC hX EZ_bl hG hA (z_W9_2 (p0 := p0) (p1 := p1) (p2 := p2) s_w s_wp1 m_w f_wp1 hG.2.2.1 hG.2.2.2).1 (z_W9_2 (p0 := p0) (p1 := p1) (p2 := p2) s_w s_wp1 m_w f_wp1 hG.2.2.1 hG.2.2.2).2 (by rw [← h_w]; exact n_W9_2 s_w s_wp1 m_w f_wp1 hG.1.1 hG.2.2.1 hG.2.2.2 (fun o ho => hA0 _ (hG.1.2 o ho))) kw236 kw226 kw221 kw227 rfl a_X9_init.1 a_X9_init.2 rfl hl.1 ⟨by decide, by decide, by decide, by decide⟩ (Nat.le_of_ble_eq_true rfl) dX6_init_4 (fun ad' H locs e1 hG => ?_)
  have h_w := (e1 _ m_w).trans h_w
  have ea : ∀ o ∈ L, _ = _ := fun o ho => (e1 o ho).trans (ea o ho)
  have m_w := List.mem_cons_of_mem (w + 1) m_w
  have m_wp1 := List.mem_cons_self (a := w + 1) (l := L)
  generalize hm1 : i_W9_2 w p0 p1 p2 mem = mm1 at hG
  refine W.widen (k := 1) (n := 20) (by decide) (by decide) ?_
  subst hm1
  exact W.vret hC.x hC.b hr (fun t ht hW => ⟨⟨ad', ea, rfl, by rw [ht]; exact hG.2.1.1, hG.1⟩, hG.2.1.2.F ht⟩) hG.2.1.2.2.2 dX6_init_7
def i_NW_2 (w : Nat) (p0 : Int32) (p1 : Int32) (p2 : Int32) (mem : gMem) : gMem := (i_W6_2 w p0 p1 p2 mem)
theorem z_NW_2 {sh : Nat → gShp} {L : List Nat} {mem : gMem} {w : Nat} {p0 p1 p2 : Int32} (s_w : sh w = (0, 6, [0, 0, 0, 0, 1, 0])) (s_wp1 : sh (w + 1) = (1, 20, [])) (f_w : w ∉ L) (f_wp1 : w + 1 ∉ L) (hz : gZ L mem) (hc : gCl sh L mem) : gZ ((w + 1) :: w :: L) (i_NW_2 w p0 p1 p2 mem) ∧ gCl sh ((w + 1) :: w :: L) (i_NW_2 w p0 p1 p2 mem) := by
  have hc := gCl_up (j := w) hc hz f_w (by rw [s_w]; decide)
  have hz := gZ_up (j := w) hz
  have m_w := List.mem_cons_self (a := w) (l := L)
  have f_wp1 : w + 1 ∉ w :: L := fun z => (List.mem_cons.mp z).elim (fun z => by omega) f_wp1
  have hzc := z_W6_2 (p0 := p0) (p1 := p1) (p2 := p2) s_w s_wp1 m_w f_wp1 hz hc
  have hz := hzc.1
  have hc := hzc.2
  have m_w := List.mem_cons_of_mem (w + 1) m_w
  have m_wp1 := List.mem_cons_self (a := w + 1) (l := w :: L)
  exact ⟨hz, hc⟩
theorem n_NW_2 {l : Launch} {sz0 : Nat} {adK adV : Nat → Nat} {D : va_G} {cy : Nat → ClassId} {sh : Nat → gShp} {ad : Nat → Nat} {L : List Nat} {mem : gMem} {w : Nat} {p0 p1 p2 : Int32} (s_w : sh w = (0, 6, [0, 0, 0, 0, 1, 0])) (s_wp1 : sh (w + 1) = (1, 20, [])) (f_w : w ∉ L) (f_wp1 : w + 1 ∉ L) (hk : gOk ad L) (hz : gZ L mem) (hc : gCl sh L mem) (h0L : ∀ o ∈ L, sz0 ≤ ad o) : gNew l yX11_newWalker cX11_newWalker 4 ((some (.object "OnTiptoe$Walker"))) 3 58 2 26 (EZ sz0 adK adV) D cy sh sh ad L ((w + 1) :: w :: L) [.int (2 : Int32), .int p0, .int p1, .int p2] mem (i_NW_2 w p0 p1 p2 mem) (fun z => some (.ref (z w))) := by
  refine n_start (own := RX11) rfl rfl hk hz hc (fun sz s hs hEs => EZ_XN h0L hs hEs) (Nat.le_of_ble_eq_true rfl) (fun p e s m args below meth c R Q A ha hR hAe hA hQ hEs hC hin hr hX H locs ls hG hl => ?_)
  have hA0 : ∀ q, A q → sz0 ≤ q := by rw [hAe]; exact aA_ge h0L hEs.1
  subst hR; subst hAe; subst hQ
  have hlocks := hC.lk
  have hl : lv_has ls 4 [(0, .int (2 : Int32)), (1, .int p0), (2, .int p1), (3, .int p2)] := hl
  have ea : ∀ o ∈ L, ad o = ad o := fun _ _ => rfl
  refine lv_iload_n hC.x hC.b dX11_newWalker_0 rfl (lv_at hl 0 rfl) ?_
  refine lv_tableIn (off := 50) (tgt := 51) hC.x hC.b dX11_newWalker_1 (by decide) (by decide) (by decide +kernel) (by decide) ?_
  refine n_new (j := w) (ty := tyX6) hC hG hA f_w s_w (nc2 rfl) rfl inW6 tyX6_ok (fun k hk => by rcases (show k = 0 ∨ k = 1 ∨ k = 2 ∨ k = 3 ∨ k = 4 ∨ k = 5 by omega) with rfl | rfl | rfl | rfl | rfl | rfl <;> rfl) kw205 kw206 kw207 (by decide) (by decide) dX11_newWalker_51 (fun ad' H b0 e1 hb hG => ?_)
  have m_w := List.mem_cons_self (a := w) (l := L)
  have f_wp1 : w + 1 ∉ w :: L := fun z => (List.mem_cons.mp z).elim (fun z => by omega) f_wp1
  have ea : ∀ o ∈ L, _ = _ := fun o ho => (e1 o ho).trans (ea o ho)
  have h_w := hb
  refine lv_dup hC.x hC.b dX11_newWalker_54 rfl ?_
  refine lv_iload_n hC.x hC.b dX11_newWalker_55 rfl (lv_at hl 1 rfl) ?_
  refine lv_iload_n hC.x hC.b dX11_newWalker_56 rfl (lv_at hl 2 rfl) ?_
  refine lv_iload_n hC.x hC.b dX11_newWalker_57 rfl (lv_at hl 3 rfl) ?_
  refine n_init (b := b0) (As := [.int p0, .int p1, .int p2]) (rest := [.ref b0]) (mc := 1) (ms := 20) hC hX EZ_bl hG hA (z_W6_2 (p0 := p0) (p1 := p1) (p2 := p2) s_w s_wp1 m_w f_wp1 hG.2.2.1 hG.2.2.2).1 (z_W6_2 (p0 := p0) (p1 := p1) (p2 := p2) s_w s_wp1 m_w f_wp1 hG.2.2.1 hG.2.2.2).2 (by rw [← h_w]; exact n_W6_2 s_w s_wp1 m_w f_wp1 hG.1.1 hG.2.2.1 hG.2.2.2 (fun o ho => hA0 _ (hG.1.2 o ho))) kw233 kw234 kw207 kw235 rfl a_X6_init.1 a_X6_init.2 rfl hl.1 ⟨by decide, by decide, by decide, by decide⟩ (Nat.le_of_ble_eq_true rfl) dX11_newWalker_58 (fun ad' H locs e1 hG => ?_)
  have h_w := (e1 _ m_w).trans h_w
  have ea : ∀ o ∈ L, _ = _ := fun o ho => (e1 o (List.mem_cons_of_mem _ ho)).trans (ea o ho)
  have m_w := List.mem_cons_of_mem (w + 1) m_w
  have m_wp1 := List.mem_cons_self (a := w + 1) (l := w :: L)
  generalize hm1 : i_W6_2 w p0 p1 p2 mem = mm1 at hG
  refine W.widen (k := 2) (n := 26) (by decide) (by decide) ?_
  subst hm1
  have hq : ∀ t : State, t.heap = _ → s.WarmedH t.vm → gNw (EZ sz0 adK adV) D cy sh ad L ((w + 1) :: w :: L) _ (fun z => some (.ref (z w))) s.heap.size args s (.returned (some (.ref b0))) t := fun t ht hW => ⟨⟨ad', ea, (by show _ = Outcome.returned (some (Value.ref (ad' w))); rw [h_w]), by rw [ht]; exact hG.2.1.1, hG.1⟩, hG.2.1.2.F ht⟩
  exact W.aret hC.x hC.b hr (Or.inl ⟨_, rfl⟩) (Or.inr ⟨_, rfl⟩) hq hG.2.1.2.2.2 dX11_newWalker_61
def i_W9_3 (w : Nat) (p0 : Int32) (p1 : Int32) (p2 : Int32) (mem : gMem) : gMem := (gsI (gsI (gsI (gsR mem w 4 (some (w + 1))) w 0 p0) w 1 p1) w 2 p2)
theorem z_W9_3 {sh : Nat → gShp} {L : List Nat} {mem : gMem} {w : Nat} {p0 p1 p2 : Int32} (s_w : sh w = (0, 5, [0, 0, 0, 0, 1, 0])) (s_wp1 : sh (w + 1) = (1, 20, [])) (m_w : w ∈ L) (f_wp1 : w + 1 ∉ L) (hz : gZ L mem) (hc : gCl sh L mem) : gZ ((w + 1) :: L) (i_W9_3 w p0 p1 p2 mem) ∧ gCl sh ((w + 1) :: L) (i_W9_3 w p0 p1 p2 mem) := by
  have hc := gCl_up (j := w + 1) hc hz f_wp1 (by rw [s_wp1]; decide)
  have hz := gZ_up (j := w + 1) hz
  have m_wp1 := List.mem_cons_self (a := w + 1) (l := L)
  have m_w := List.mem_cons_of_mem (w + 1) m_w
  have hz := gZ_sR (o := w) (k := 4) (v := some (w + 1)) hz m_w
  have hc := gCl_sR (o := w) (k := 4) (v := some (w + 1)) hc (fun b hb => by cases hb; exact m_wp1)
  have hz := gZ_sI (o := w) (k := 0) (v := p0) hz m_w
  have hc := gCl_sI (o := w) (k := 0) (v := p0) hc
  have hz := gZ_sI (o := w) (k := 1) (v := p1) hz m_w
  have hc := gCl_sI (o := w) (k := 1) (v := p1) hc
  have hz := gZ_sI (o := w) (k := 2) (v := p2) hz m_w
  have hc := gCl_sI (o := w) (k := 2) (v := p2) hc
  exact ⟨hz, hc⟩
theorem n_W9_3 {l : Launch} {sz0 : Nat} {adK adV : Nat → Nat} {D : va_G} {cy : Nat → ClassId} {sh : Nat → gShp} {ad : Nat → Nat} {L : List Nat} {mem : gMem} {w : Nat} {p0 p1 p2 : Int32} (s_w : sh w = (0, 5, [0, 0, 0, 0, 1, 0])) (s_wp1 : sh (w + 1) = (1, 20, [])) (m_w : w ∈ L) (f_wp1 : w + 1 ∉ L) (hk : gOk ad L) (hz : gZ L mem) (hc : gCl sh L mem) (h0L : ∀ o ∈ L, sz0 ≤ ad o) : gNew l yX9_init cX9_init 4 none 1 12 1 20 (EZ sz0 adK adV) D cy sh sh ad L ((w + 1) :: L) [.ref (ad w), .int p0, .int p1, .int p2] mem (i_W9_3 w p0 p1 p2 mem) (fun _ => none) := by
  refine n_start (own := RX9) rfl rfl hk hz hc (fun sz s hs hEs => EZ_XN h0L hs hEs) (Nat.le_of_ble_eq_true rfl) (fun p e s m args below meth c R Q A ha hR hAe hA hQ hEs hC hin hr hX H locs ls hG hl => ?_)
  have hA0 : ∀ q, A q → sz0 ≤ q := by rw [hAe]; exact aA_ge h0L hEs.1
  subst hR; subst hAe; subst hQ
  have hlocks := hC.lk
  have hl : lv_has ls 4 [(0, .ref (ad w)), (1, .int p0), (2, .int p1), (3, .int p2)] := hl
  obtain ⟨a0, h_w⟩ : ∃ a, ad w = a := ⟨_, rfl⟩
  rw [h_w] at hl
  have ea : ∀ o ∈ L, ad o = ad o := fun _ _ => rfl
  refine lv_aload_n hC.x hC.b dX9_init_0 rfl (lv_at hl 0 rfl) ?_
  refine n_obj hC hl.1 kw228 ⟨by decide, by decide⟩ dX9_init_1 ?_
  refine lv_aload_n hC.x hC.b dX9_init_4 rfl (lv_at hl 0 rfl) ?_
  refine lv_bipush (v := (20 : Int32)) hC.x hC.b dX9_init_5 rfl ?_
  refine n_newI (j := w + 1) (N := 20) hC hG hA f_wp1 s_wp1 kw30 rfl (by decide) (by decide) (by decide) dX9_init_7 (fun ad' H b0 e1 hb hG => ?_)
  have h_w := (e1 _ m_w).trans h_w
  have m_w := List.mem_cons_of_mem (w + 1) m_w
  have m_wp1 := List.mem_cons_self (a := w + 1) (l := L)
  have ea : ∀ o ∈ L, _ = _ := fun o ho => (e1 o ho).trans (ea o ho)
  have h_wp1 := hb
  refine n_putr (j := w + 1) hC hin hG pu_X9_9_5 h_w h_wp1 m_wp1 m_w s_w rfl (ty := (.array .int)) (by decide +kernel) (fun q => ⟨rfl, rfl⟩) dX9_init_9 (fun H locs hG => ?_)
  generalize hm1 : gsR mem w 4 (some (w + 1)) = mm1 at hG
  refine lv_aload_n hC.x hC.b dX9_init_12 rfl (lv_at hl 0 rfl) ?_
  refine lv_iload_n hC.x hC.b dX9_init_13 rfl (lv_at hl 1 rfl) ?_
  refine n_puti hC hin hG pu_X9_15_5 h_w m_w s_w rfl dX9_init_14 (fun H locs hG => ?_)
  generalize hm2 : gsI mm1 w 0 p0 = mm2 at hG
  refine lv_aload_n hC.x hC.b dX9_init_17 rfl (lv_at hl 0 rfl) ?_
  refine lv_iload_n hC.x hC.b dX9_init_18 rfl (lv_at hl 2 rfl) ?_
  refine n_puti hC hin hG pu_X9_19_5 h_w m_w s_w rfl dX9_init_19 (fun H locs hG => ?_)
  generalize hm3 : gsI mm2 w 1 p1 = mm3 at hG
  refine lv_aload_n hC.x hC.b dX9_init_22 rfl (lv_at hl 0 rfl) ?_
  refine lv_iload_n hC.x hC.b dX9_init_23 rfl (lv_at hl 3 rfl) ?_
  refine n_puti hC hin hG pu_X9_22_5 h_w m_w s_w rfl dX9_init_24 (fun H locs hG => ?_)
  generalize hm4 : gsI mm3 w 2 p2 = mm4 at hG
  refine W.widen (k := 1) (n := 20) (by decide) (by decide) ?_
  subst hm1 hm2 hm3 hm4
  exact W.vret hC.x hC.b hr (fun t ht hW => ⟨⟨ad', ea, rfl, by rw [ht]; exact hG.2.1.1, hG.1⟩, hG.2.1.2.F ht⟩) hG.2.1.2.2.2 dX9_init_27
def i_W5_3 (w : Nat) (p0 : Int32) (p1 : Int32) (p2 : Int32) (mem : gMem) : gMem := (i_W9_3 w p0 p1 p2 mem)
theorem z_W5_3 {sh : Nat → gShp} {L : List Nat} {mem : gMem} {w : Nat} {p0 p1 p2 : Int32} (s_w : sh w = (0, 5, [0, 0, 0, 0, 1, 0])) (s_wp1 : sh (w + 1) = (1, 20, [])) (m_w : w ∈ L) (f_wp1 : w + 1 ∉ L) (hz : gZ L mem) (hc : gCl sh L mem) : gZ ((w + 1) :: L) (i_W5_3 w p0 p1 p2 mem) ∧ gCl sh ((w + 1) :: L) (i_W5_3 w p0 p1 p2 mem) := by
  have hzc := z_W9_3 (p0 := p0) (p1 := p1) (p2 := p2) s_w s_wp1 m_w f_wp1 hz hc
  have hz := hzc.1
  have hc := hzc.2
  have m_w := List.mem_cons_of_mem (w + 1) m_w
  have m_wp1 := List.mem_cons_self (a := w + 1) (l := L)
  exact ⟨hz, hc⟩
theorem n_W5_3 {l : Launch} {sz0 : Nat} {adK adV : Nat → Nat} {D : va_G} {cy : Nat → ClassId} {sh : Nat → gShp} {ad : Nat → Nat} {L : List Nat} {mem : gMem} {w : Nat} {p0 p1 p2 : Int32} (s_w : sh w = (0, 5, [0, 0, 0, 0, 1, 0])) (s_wp1 : sh (w + 1) = (1, 20, [])) (m_w : w ∈ L) (f_wp1 : w + 1 ∉ L) (hk : gOk ad L) (hz : gZ L mem) (hc : gCl sh L mem) (h0L : ∀ o ∈ L, sz0 ≤ ad o) : gNew l yX5_init cX5_init 4 none 2 35 1 20 (EZ sz0 adK adV) D cy sh sh ad L ((w + 1) :: L) [.ref (ad w), .int p0, .int p1, .int p2] mem (i_W5_3 w p0 p1 p2 mem) (fun _ => none) := by
  refine n_start (own := RX5) rfl rfl hk hz hc (fun sz s hs hEs => EZ_XN h0L hs hEs) (Nat.le_of_ble_eq_true rfl) (fun p e s m args below meth c R Q A ha hR hAe hA hQ hEs hC hin hr hX H locs ls hG hl => ?_)
  have hA0 : ∀ q, A q → sz0 ≤ q := by rw [hAe]; exact aA_ge h0L hEs.1
  subst hR; subst hAe; subst hQ
  have hlocks := hC.lk
  have hl : lv_has ls 4 [(0, .ref (ad w)), (1, .int p0), (2, .int p1), (3, .int p2)] := hl
  obtain ⟨a0, h_w⟩ : ∃ a, ad w = a := ⟨_, rfl⟩
  rw [h_w] at hl
  have ea : ∀ o ∈ L, ad o = ad o := fun _ _ => rfl
  refine lv_aload_n hC.x hC.b dX5_init_0 rfl (lv_at hl 0 rfl) ?_
  refine lv_iload_n hC.x hC.b dX5_init_1 rfl (lv_at hl 1 rfl) ?_
  refine lv_iload_n hC.x hC.b dX5_init_2 rfl (lv_at hl 2 rfl) ?_
  refine lv_iload_n hC.x hC.b dX5_init_3 rfl (lv_at hl 3 rfl) ?_
  refine n_init (b := a0) (As := [.int p0, .int p1, .int p2]) (rest := []) (mc := 1) (ms := 20) hC hX EZ_bl hG hA (z_W9_3 (p0 := p0) (p1 := p1) (p2 := p2) s_w s_wp1 m_w f_wp1 hG.2.2.1 hG.2.2.2).1 (z_W9_3 (p0 := p0) (p1 := p1) (p2 := p2) s_w s_wp1 m_w f_wp1 hG.2.2.1 hG.2.2.2).2 (by rw [← h_w]; exact n_W9_3 s_w s_wp1 m_w f_wp1 hG.1.1 hG.2.2.1 hG.2.2.2 (fun o ho => hA0 _ (hG.1.2 o ho))) kw240 kw226 kw221 kw227 rfl a_X9_init.1 a_X9_init.2 rfl hl.1 ⟨by decide, by decide, by decide, by decide⟩ (Nat.le_of_ble_eq_true rfl) dX5_init_4 (fun ad' H locs e1 hG => ?_)
  have h_w := (e1 _ m_w).trans h_w
  have ea : ∀ o ∈ L, _ = _ := fun o ho => (e1 o ho).trans (ea o ho)
  have m_w := List.mem_cons_of_mem (w + 1) m_w
  have m_wp1 := List.mem_cons_self (a := w + 1) (l := L)
  generalize hm1 : i_W9_3 w p0 p1 p2 mem = mm1 at hG
  refine W.widen (k := 1) (n := 20) (by decide) (by decide) ?_
  subst hm1
  exact W.vret hC.x hC.b hr (fun t ht hW => ⟨⟨ad', ea, rfl, by rw [ht]; exact hG.2.1.1, hG.1⟩, hG.2.1.2.F ht⟩) hG.2.1.2.2.2 dX5_init_7
def i_NW_3 (w : Nat) (p0 : Int32) (p1 : Int32) (p2 : Int32) (mem : gMem) : gMem := (i_W5_3 w p0 p1 p2 mem)
theorem z_NW_3 {sh : Nat → gShp} {L : List Nat} {mem : gMem} {w : Nat} {p0 p1 p2 : Int32} (s_w : sh w = (0, 5, [0, 0, 0, 0, 1, 0])) (s_wp1 : sh (w + 1) = (1, 20, [])) (f_w : w ∉ L) (f_wp1 : w + 1 ∉ L) (hz : gZ L mem) (hc : gCl sh L mem) : gZ ((w + 1) :: w :: L) (i_NW_3 w p0 p1 p2 mem) ∧ gCl sh ((w + 1) :: w :: L) (i_NW_3 w p0 p1 p2 mem) := by
  have hc := gCl_up (j := w) hc hz f_w (by rw [s_w]; decide)
  have hz := gZ_up (j := w) hz
  have m_w := List.mem_cons_self (a := w) (l := L)
  have f_wp1 : w + 1 ∉ w :: L := fun z => (List.mem_cons.mp z).elim (fun z => by omega) f_wp1
  have hzc := z_W5_3 (p0 := p0) (p1 := p1) (p2 := p2) s_w s_wp1 m_w f_wp1 hz hc
  have hz := hzc.1
  have hc := hzc.2
  have m_w := List.mem_cons_of_mem (w + 1) m_w
  have m_wp1 := List.mem_cons_self (a := w + 1) (l := w :: L)
  exact ⟨hz, hc⟩
theorem n_NW_3 {l : Launch} {sz0 : Nat} {adK adV : Nat → Nat} {D : va_G} {cy : Nat → ClassId} {sh : Nat → gShp} {ad : Nat → Nat} {L : List Nat} {mem : gMem} {w : Nat} {p0 p1 p2 : Int32} (s_w : sh w = (0, 5, [0, 0, 0, 0, 1, 0])) (s_wp1 : sh (w + 1) = (1, 20, [])) (f_w : w ∉ L) (f_wp1 : w + 1 ∉ L) (hk : gOk ad L) (hz : gZ L mem) (hc : gCl sh L mem) (h0L : ∀ o ∈ L, sz0 ≤ ad o) : gNew l yX11_newWalker cX11_newWalker 4 ((some (.object "OnTiptoe$Walker"))) 3 58 2 26 (EZ sz0 adK adV) D cy sh sh ad L ((w + 1) :: w :: L) [.int (3 : Int32), .int p0, .int p1, .int p2] mem (i_NW_3 w p0 p1 p2 mem) (fun z => some (.ref (z w))) := by
  refine n_start (own := RX11) rfl rfl hk hz hc (fun sz s hs hEs => EZ_XN h0L hs hEs) (Nat.le_of_ble_eq_true rfl) (fun p e s m args below meth c R Q A ha hR hAe hA hQ hEs hC hin hr hX H locs ls hG hl => ?_)
  have hA0 : ∀ q, A q → sz0 ≤ q := by rw [hAe]; exact aA_ge h0L hEs.1
  subst hR; subst hAe; subst hQ
  have hlocks := hC.lk
  have hl : lv_has ls 4 [(0, .int (3 : Int32)), (1, .int p0), (2, .int p1), (3, .int p2)] := hl
  have ea : ∀ o ∈ L, ad o = ad o := fun _ _ => rfl
  refine lv_iload_n hC.x hC.b dX11_newWalker_0 rfl (lv_at hl 0 rfl) ?_
  refine lv_tableIn (off := 61) (tgt := 62) hC.x hC.b dX11_newWalker_1 (by decide) (by decide) (by decide +kernel) (by decide) ?_
  refine n_new (j := w) (ty := tyX5) hC hG hA f_w s_w (nc2 rfl) rfl inW5 tyX5_ok (fun k hk => by rcases (show k = 0 ∨ k = 1 ∨ k = 2 ∨ k = 3 ∨ k = 4 ∨ k = 5 by omega) with rfl | rfl | rfl | rfl | rfl | rfl <;> rfl) kw208 kw209 kw210 (by decide) (by decide) dX11_newWalker_62 (fun ad' H b0 e1 hb hG => ?_)
  have m_w := List.mem_cons_self (a := w) (l := L)
  have f_wp1 : w + 1 ∉ w :: L := fun z => (List.mem_cons.mp z).elim (fun z => by omega) f_wp1
  have ea : ∀ o ∈ L, _ = _ := fun o ho => (e1 o ho).trans (ea o ho)
  have h_w := hb
  refine lv_dup hC.x hC.b dX11_newWalker_65 rfl ?_
  refine lv_iload_n hC.x hC.b dX11_newWalker_66 rfl (lv_at hl 1 rfl) ?_
  refine lv_iload_n hC.x hC.b dX11_newWalker_67 rfl (lv_at hl 2 rfl) ?_
  refine lv_iload_n hC.x hC.b dX11_newWalker_68 rfl (lv_at hl 3 rfl) ?_
  refine n_init (b := b0) (As := [.int p0, .int p1, .int p2]) (rest := [.ref b0]) (mc := 1) (ms := 20) hC hX EZ_bl hG hA (z_W5_3 (p0 := p0) (p1 := p1) (p2 := p2) s_w s_wp1 m_w f_wp1 hG.2.2.1 hG.2.2.2).1 (z_W5_3 (p0 := p0) (p1 := p1) (p2 := p2) s_w s_wp1 m_w f_wp1 hG.2.2.1 hG.2.2.2).2 (by rw [← h_w]; exact n_W5_3 s_w s_wp1 m_w f_wp1 hG.1.1 hG.2.2.1 hG.2.2.2 (fun o ho => hA0 _ (hG.1.2 o ho))) kw237 kw238 kw210 kw239 rfl a_X5_init.1 a_X5_init.2 rfl hl.1 ⟨by decide, by decide, by decide, by decide⟩ (Nat.le_of_ble_eq_true rfl) dX11_newWalker_69 (fun ad' H locs e1 hG => ?_)
  have h_w := (e1 _ m_w).trans h_w
  have ea : ∀ o ∈ L, _ = _ := fun o ho => (e1 o (List.mem_cons_of_mem _ ho)).trans (ea o ho)
  have m_w := List.mem_cons_of_mem (w + 1) m_w
  have m_wp1 := List.mem_cons_self (a := w + 1) (l := w :: L)
  generalize hm1 : i_W5_3 w p0 p1 p2 mem = mm1 at hG
  refine W.widen (k := 2) (n := 26) (by decide) (by decide) ?_
  subst hm1
  have hq : ∀ t : State, t.heap = _ → s.WarmedH t.vm → gNw (EZ sz0 adK adV) D cy sh ad L ((w + 1) :: w :: L) _ (fun z => some (.ref (z w))) s.heap.size args s (.returned (some (.ref b0))) t := fun t ht hW => ⟨⟨ad', ea, (by show _ = Outcome.returned (some (Value.ref (ad' w))); rw [h_w]), by rw [ht]; exact hG.2.1.1, hG.1⟩, hG.2.1.2.F ht⟩
  exact W.aret hC.x hC.b hr (Or.inl ⟨_, rfl⟩) (Or.inr ⟨_, rfl⟩) hq hG.2.1.2.2.2 dX11_newWalker_72
def i_W9_4 (w : Nat) (p0 : Int32) (p1 : Int32) (p2 : Int32) (mem : gMem) : gMem := (gsI (gsI (gsI (gsR mem w 4 (some (w + 1))) w 0 p0) w 1 p1) w 2 p2)
theorem z_W9_4 {sh : Nat → gShp} {L : List Nat} {mem : gMem} {w : Nat} {p0 p1 p2 : Int32} (s_w : sh w = (0, 7, [0, 0, 0, 0, 1, 0])) (s_wp1 : sh (w + 1) = (1, 20, [])) (m_w : w ∈ L) (f_wp1 : w + 1 ∉ L) (hz : gZ L mem) (hc : gCl sh L mem) : gZ ((w + 1) :: L) (i_W9_4 w p0 p1 p2 mem) ∧ gCl sh ((w + 1) :: L) (i_W9_4 w p0 p1 p2 mem) := by
  have hc := gCl_up (j := w + 1) hc hz f_wp1 (by rw [s_wp1]; decide)
  have hz := gZ_up (j := w + 1) hz
  have m_wp1 := List.mem_cons_self (a := w + 1) (l := L)
  have m_w := List.mem_cons_of_mem (w + 1) m_w
  have hz := gZ_sR (o := w) (k := 4) (v := some (w + 1)) hz m_w
  have hc := gCl_sR (o := w) (k := 4) (v := some (w + 1)) hc (fun b hb => by cases hb; exact m_wp1)
  have hz := gZ_sI (o := w) (k := 0) (v := p0) hz m_w
  have hc := gCl_sI (o := w) (k := 0) (v := p0) hc
  have hz := gZ_sI (o := w) (k := 1) (v := p1) hz m_w
  have hc := gCl_sI (o := w) (k := 1) (v := p1) hc
  have hz := gZ_sI (o := w) (k := 2) (v := p2) hz m_w
  have hc := gCl_sI (o := w) (k := 2) (v := p2) hc
  exact ⟨hz, hc⟩
theorem n_W9_4 {l : Launch} {sz0 : Nat} {adK adV : Nat → Nat} {D : va_G} {cy : Nat → ClassId} {sh : Nat → gShp} {ad : Nat → Nat} {L : List Nat} {mem : gMem} {w : Nat} {p0 p1 p2 : Int32} (s_w : sh w = (0, 7, [0, 0, 0, 0, 1, 0])) (s_wp1 : sh (w + 1) = (1, 20, [])) (m_w : w ∈ L) (f_wp1 : w + 1 ∉ L) (hk : gOk ad L) (hz : gZ L mem) (hc : gCl sh L mem) (h0L : ∀ o ∈ L, sz0 ≤ ad o) : gNew l yX9_init cX9_init 4 none 1 12 1 20 (EZ sz0 adK adV) D cy sh sh ad L ((w + 1) :: L) [.ref (ad w), .int p0, .int p1, .int p2] mem (i_W9_4 w p0 p1 p2 mem) (fun _ => none) := by
  refine n_start (own := RX9) rfl rfl hk hz hc (fun sz s hs hEs => EZ_XN h0L hs hEs) (Nat.le_of_ble_eq_true rfl) (fun p e s m args below meth c R Q A ha hR hAe hA hQ hEs hC hin hr hX H locs ls hG hl => ?_)
  have hA0 : ∀ q, A q → sz0 ≤ q := by rw [hAe]; exact aA_ge h0L hEs.1
  subst hR; subst hAe; subst hQ
  have hlocks := hC.lk
  have hl : lv_has ls 4 [(0, .ref (ad w)), (1, .int p0), (2, .int p1), (3, .int p2)] := hl
  obtain ⟨a0, h_w⟩ : ∃ a, ad w = a := ⟨_, rfl⟩
  rw [h_w] at hl
  have ea : ∀ o ∈ L, ad o = ad o := fun _ _ => rfl
  refine lv_aload_n hC.x hC.b dX9_init_0 rfl (lv_at hl 0 rfl) ?_
  refine n_obj hC hl.1 kw228 ⟨by decide, by decide⟩ dX9_init_1 ?_
  refine lv_aload_n hC.x hC.b dX9_init_4 rfl (lv_at hl 0 rfl) ?_
  refine lv_bipush (v := (20 : Int32)) hC.x hC.b dX9_init_5 rfl ?_
  refine n_newI (j := w + 1) (N := 20) hC hG hA f_wp1 s_wp1 kw30 rfl (by decide) (by decide) (by decide) dX9_init_7 (fun ad' H b0 e1 hb hG => ?_)
  have h_w := (e1 _ m_w).trans h_w
  have m_w := List.mem_cons_of_mem (w + 1) m_w
  have m_wp1 := List.mem_cons_self (a := w + 1) (l := L)
  have ea : ∀ o ∈ L, _ = _ := fun o ho => (e1 o ho).trans (ea o ho)
  have h_wp1 := hb
  refine n_putr (j := w + 1) hC hin hG pu_X9_9_7 h_w h_wp1 m_wp1 m_w s_w rfl (ty := (.array .int)) (by decide +kernel) (fun q => ⟨rfl, rfl⟩) dX9_init_9 (fun H locs hG => ?_)
  generalize hm1 : gsR mem w 4 (some (w + 1)) = mm1 at hG
  refine lv_aload_n hC.x hC.b dX9_init_12 rfl (lv_at hl 0 rfl) ?_
  refine lv_iload_n hC.x hC.b dX9_init_13 rfl (lv_at hl 1 rfl) ?_
  refine n_puti hC hin hG pu_X9_15_7 h_w m_w s_w rfl dX9_init_14 (fun H locs hG => ?_)
  generalize hm2 : gsI mm1 w 0 p0 = mm2 at hG
  refine lv_aload_n hC.x hC.b dX9_init_17 rfl (lv_at hl 0 rfl) ?_
  refine lv_iload_n hC.x hC.b dX9_init_18 rfl (lv_at hl 2 rfl) ?_
  refine n_puti hC hin hG pu_X9_19_7 h_w m_w s_w rfl dX9_init_19 (fun H locs hG => ?_)
  generalize hm3 : gsI mm2 w 1 p1 = mm3 at hG
  refine lv_aload_n hC.x hC.b dX9_init_22 rfl (lv_at hl 0 rfl) ?_
  refine lv_iload_n hC.x hC.b dX9_init_23 rfl (lv_at hl 3 rfl) ?_
  refine n_puti hC hin hG pu_X9_22_7 h_w m_w s_w rfl dX9_init_24 (fun H locs hG => ?_)
  generalize hm4 : gsI mm3 w 2 p2 = mm4 at hG
  refine W.widen (k := 1) (n := 20) (by decide) (by decide) ?_
  subst hm1 hm2 hm3 hm4
  exact W.vret hC.x hC.b hr (fun t ht hW => ⟨⟨ad', ea, rfl, by rw [ht]; exact hG.2.1.1, hG.1⟩, hG.2.1.2.F ht⟩) hG.2.1.2.2.2 dX9_init_27
def i_W1_4 (w : Nat) (p0 : Int32) (p1 : Int32) (p2 : Int32) (mem : gMem) : gMem := (i_W9_4 w p0 p1 p2 mem)
theorem z_W1_4 {sh : Nat → gShp} {L : List Nat} {mem : gMem} {w : Nat} {p0 p1 p2 : Int32} (s_w : sh w = (0, 7, [0, 0, 0, 0, 1, 0])) (s_wp1 : sh (w + 1) = (1, 20, [])) (m_w : w ∈ L) (f_wp1 : w + 1 ∉ L) (hz : gZ L mem) (hc : gCl sh L mem) : gZ ((w + 1) :: L) (i_W1_4 w p0 p1 p2 mem) ∧ gCl sh ((w + 1) :: L) (i_W1_4 w p0 p1 p2 mem) := by
  have hzc := z_W9_4 (p0 := p0) (p1 := p1) (p2 := p2) s_w s_wp1 m_w f_wp1 hz hc
  have hz := hzc.1
  have hc := hzc.2
  have m_w := List.mem_cons_of_mem (w + 1) m_w
  have m_wp1 := List.mem_cons_self (a := w + 1) (l := L)
  exact ⟨hz, hc⟩
theorem n_W1_4 {l : Launch} {sz0 : Nat} {adK adV : Nat → Nat} {D : va_G} {cy : Nat → ClassId} {sh : Nat → gShp} {ad : Nat → Nat} {L : List Nat} {mem : gMem} {w : Nat} {p0 p1 p2 : Int32} (s_w : sh w = (0, 7, [0, 0, 0, 0, 1, 0])) (s_wp1 : sh (w + 1) = (1, 20, [])) (m_w : w ∈ L) (f_wp1 : w + 1 ∉ L) (hk : gOk ad L) (hz : gZ L mem) (hc : gCl sh L mem) (h0L : ∀ o ∈ L, sz0 ≤ ad o) : gNew l yX1_init cX1_init 4 none 2 35 1 20 (EZ sz0 adK adV) D cy sh sh ad L ((w + 1) :: L) [.ref (ad w), .int p0, .int p1, .int p2] mem (i_W1_4 w p0 p1 p2 mem) (fun _ => none) := by
  refine n_start (own := RX1) rfl rfl hk hz hc (fun sz s hs hEs => EZ_XN h0L hs hEs) (Nat.le_of_ble_eq_true rfl) (fun p e s m args below meth c R Q A ha hR hAe hA hQ hEs hC hin hr hX H locs ls hG hl => ?_)
  have hA0 : ∀ q, A q → sz0 ≤ q := by rw [hAe]; exact aA_ge h0L hEs.1
  subst hR; subst hAe; subst hQ
  have hlocks := hC.lk
  have hl : lv_has ls 4 [(0, .ref (ad w)), (1, .int p0), (2, .int p1), (3, .int p2)] := hl
  obtain ⟨a0, h_w⟩ : ∃ a, ad w = a := ⟨_, rfl⟩
  rw [h_w] at hl
  have ea : ∀ o ∈ L, ad o = ad o := fun _ _ => rfl
  refine lv_aload_n hC.x hC.b dX1_init_0 rfl (lv_at hl 0 rfl) ?_
  refine lv_iload_n hC.x hC.b dX1_init_1 rfl (lv_at hl 1 rfl) ?_
  refine lv_iload_n hC.x hC.b dX1_init_2 rfl (lv_at hl 2 rfl) ?_
  refine lv_iload_n hC.x hC.b dX1_init_3 rfl (lv_at hl 3 rfl) ?_
  refine n_init (b := a0) (As := [.int p0, .int p1, .int p2]) (rest := []) (mc := 1) (ms := 20) hC hX EZ_bl hG hA (z_W9_4 (p0 := p0) (p1 := p1) (p2 := p2) s_w s_wp1 m_w f_wp1 hG.2.2.1 hG.2.2.2).1 (z_W9_4 (p0 := p0) (p1 := p1) (p2 := p2) s_w s_wp1 m_w f_wp1 hG.2.2.1 hG.2.2.2).2 (by rw [← h_w]; exact n_W9_4 s_w s_wp1 m_w f_wp1 hG.1.1 hG.2.2.1 hG.2.2.2 (fun o ho => hA0 _ (hG.1.2 o ho))) kw225 kw226 kw221 kw227 rfl a_X9_init.1 a_X9_init.2 rfl hl.1 ⟨by decide, by decide, by decide, by decide⟩ (Nat.le_of_ble_eq_true rfl) dX1_init_4 (fun ad' H locs e1 hG => ?_)
  have h_w := (e1 _ m_w).trans h_w
  have ea : ∀ o ∈ L, _ = _ := fun o ho => (e1 o ho).trans (ea o ho)
  have m_w := List.mem_cons_of_mem (w + 1) m_w
  have m_wp1 := List.mem_cons_self (a := w + 1) (l := L)
  generalize hm1 : i_W9_4 w p0 p1 p2 mem = mm1 at hG
  refine W.widen (k := 1) (n := 20) (by decide) (by decide) ?_
  subst hm1
  exact W.vret hC.x hC.b hr (fun t ht hW => ⟨⟨ad', ea, rfl, by rw [ht]; exact hG.2.1.1, hG.1⟩, hG.2.1.2.F ht⟩) hG.2.1.2.2.2 dX1_init_7
def i_W7_4 (w : Nat) (p0 : Int32) (p1 : Int32) (p2 : Int32) (mem : gMem) : gMem := (i_W1_4 w p0 p1 p2 mem)
theorem z_W7_4 {sh : Nat → gShp} {L : List Nat} {mem : gMem} {w : Nat} {p0 p1 p2 : Int32} (s_w : sh w = (0, 7, [0, 0, 0, 0, 1, 0])) (s_wp1 : sh (w + 1) = (1, 20, [])) (m_w : w ∈ L) (f_wp1 : w + 1 ∉ L) (hz : gZ L mem) (hc : gCl sh L mem) : gZ ((w + 1) :: L) (i_W7_4 w p0 p1 p2 mem) ∧ gCl sh ((w + 1) :: L) (i_W7_4 w p0 p1 p2 mem) := by
  have hzc := z_W1_4 (p0 := p0) (p1 := p1) (p2 := p2) s_w s_wp1 m_w f_wp1 hz hc
  have hz := hzc.1
  have hc := hzc.2
  have m_w := List.mem_cons_of_mem (w + 1) m_w
  have m_wp1 := List.mem_cons_self (a := w + 1) (l := L)
  exact ⟨hz, hc⟩
theorem n_W7_4 {l : Launch} {sz0 : Nat} {adK adV : Nat → Nat} {D : va_G} {cy : Nat → ClassId} {sh : Nat → gShp} {ad : Nat → Nat} {L : List Nat} {mem : gMem} {w : Nat} {p0 p1 p2 : Int32} (s_w : sh w = (0, 7, [0, 0, 0, 0, 1, 0])) (s_wp1 : sh (w + 1) = (1, 20, [])) (m_w : w ∈ L) (f_wp1 : w + 1 ∉ L) (hk : gOk ad L) (hz : gZ L mem) (hc : gCl sh L mem) (h0L : ∀ o ∈ L, sz0 ≤ ad o) : gNew l yX7_init cX7_init 4 none 3 58 1 20 (EZ sz0 adK adV) D cy sh sh ad L ((w + 1) :: L) [.ref (ad w), .int p0, .int p1, .int p2] mem (i_W7_4 w p0 p1 p2 mem) (fun _ => none) := by
  refine n_start (own := RX7) rfl rfl hk hz hc (fun sz s hs hEs => EZ_XN h0L hs hEs) (Nat.le_of_ble_eq_true rfl) (fun p e s m args below meth c R Q A ha hR hAe hA hQ hEs hC hin hr hX H locs ls hG hl => ?_)
  have hA0 : ∀ q, A q → sz0 ≤ q := by rw [hAe]; exact aA_ge h0L hEs.1
  subst hR; subst hAe; subst hQ
  have hlocks := hC.lk
  have hl : lv_has ls 4 [(0, .ref (ad w)), (1, .int p0), (2, .int p1), (3, .int p2)] := hl
  obtain ⟨a0, h_w⟩ : ∃ a, ad w = a := ⟨_, rfl⟩
  rw [h_w] at hl
  have ea : ∀ o ∈ L, ad o = ad o := fun _ _ => rfl
  refine lv_aload_n hC.x hC.b dX7_init_0 rfl (lv_at hl 0 rfl) ?_
  refine lv_iload_n hC.x hC.b dX7_init_1 rfl (lv_at hl 1 rfl) ?_
  refine lv_iload_n hC.x hC.b dX7_init_2 rfl (lv_at hl 2 rfl) ?_
  refine lv_iload_n hC.x hC.b dX7_init_3 rfl (lv_at hl 3 rfl) ?_
  refine n_init (b := a0) (As := [.int p0, .int p1, .int p2]) (rest := []) (mc := 1) (ms := 20) hC hX EZ_bl hG hA (z_W1_4 (p0 := p0) (p1 := p1) (p2 := p2) s_w s_wp1 m_w f_wp1 hG.2.2.1 hG.2.2.2).1 (z_W1_4 (p0 := p0) (p1 := p1) (p2 := p2) s_w s_wp1 m_w f_wp1 hG.2.2.1 hG.2.2.2).2 (by rw [← h_w]; exact n_W1_4 s_w s_wp1 m_w f_wp1 hG.1.1 hG.2.2.1 hG.2.2.2 (fun o ho => hA0 _ (hG.1.2 o ho))) kw244 kw223 kw204 kw224 rfl a_X1_init.1 a_X1_init.2 rfl hl.1 ⟨by decide, by decide, by decide, by decide⟩ (Nat.le_of_ble_eq_true rfl) dX7_init_4 (fun ad' H locs e1 hG => ?_)
  have h_w := (e1 _ m_w).trans h_w
  have ea : ∀ o ∈ L, _ = _ := fun o ho => (e1 o ho).trans (ea o ho)
  have m_w := List.mem_cons_of_mem (w + 1) m_w
  have m_wp1 := List.mem_cons_self (a := w + 1) (l := L)
  generalize hm1 : i_W1_4 w p0 p1 p2 mem = mm1 at hG
  refine W.widen (k := 1) (n := 20) (by decide) (by decide) ?_
  subst hm1
  exact W.vret hC.x hC.b hr (fun t ht hW => ⟨⟨ad', ea, rfl, by rw [ht]; exact hG.2.1.1, hG.1⟩, hG.2.1.2.F ht⟩) hG.2.1.2.2.2 dX7_init_7
def i_NW_4 (w : Nat) (p0 : Int32) (p1 : Int32) (p2 : Int32) (mem : gMem) : gMem := (i_W7_4 w p0 p1 p2 mem)
theorem z_NW_4 {sh : Nat → gShp} {L : List Nat} {mem : gMem} {w : Nat} {p0 p1 p2 : Int32} (s_w : sh w = (0, 7, [0, 0, 0, 0, 1, 0])) (s_wp1 : sh (w + 1) = (1, 20, [])) (f_w : w ∉ L) (f_wp1 : w + 1 ∉ L) (hz : gZ L mem) (hc : gCl sh L mem) : gZ ((w + 1) :: w :: L) (i_NW_4 w p0 p1 p2 mem) ∧ gCl sh ((w + 1) :: w :: L) (i_NW_4 w p0 p1 p2 mem) := by
  have hc := gCl_up (j := w) hc hz f_w (by rw [s_w]; decide)
  have hz := gZ_up (j := w) hz
  have m_w := List.mem_cons_self (a := w) (l := L)
  have f_wp1 : w + 1 ∉ w :: L := fun z => (List.mem_cons.mp z).elim (fun z => by omega) f_wp1
  have hzc := z_W7_4 (p0 := p0) (p1 := p1) (p2 := p2) s_w s_wp1 m_w f_wp1 hz hc
  have hz := hzc.1
  have hc := hzc.2
  have m_w := List.mem_cons_of_mem (w + 1) m_w
  have m_wp1 := List.mem_cons_self (a := w + 1) (l := w :: L)
  exact ⟨hz, hc⟩
theorem n_NW_4 {l : Launch} {sz0 : Nat} {adK adV : Nat → Nat} {D : va_G} {cy : Nat → ClassId} {sh : Nat → gShp} {ad : Nat → Nat} {L : List Nat} {mem : gMem} {w : Nat} {p0 p1 p2 : Int32} (s_w : sh w = (0, 7, [0, 0, 0, 0, 1, 0])) (s_wp1 : sh (w + 1) = (1, 20, [])) (f_w : w ∉ L) (f_wp1 : w + 1 ∉ L) (hk : gOk ad L) (hz : gZ L mem) (hc : gCl sh L mem) (h0L : ∀ o ∈ L, sz0 ≤ ad o) : gNew l yX11_newWalker cX11_newWalker 4 ((some (.object "OnTiptoe$Walker"))) 4 81 2 26 (EZ sz0 adK adV) D cy sh sh ad L ((w + 1) :: w :: L) [.int (4 : Int32), .int p0, .int p1, .int p2] mem (i_NW_4 w p0 p1 p2 mem) (fun z => some (.ref (z w))) := by
  refine n_start (own := RX11) rfl rfl hk hz hc (fun sz s hs hEs => EZ_XN h0L hs hEs) (Nat.le_of_ble_eq_true rfl) (fun p e s m args below meth c R Q A ha hR hAe hA hQ hEs hC hin hr hX H locs ls hG hl => ?_)
  have hA0 : ∀ q, A q → sz0 ≤ q := by rw [hAe]; exact aA_ge h0L hEs.1
  subst hR; subst hAe; subst hQ
  have hlocks := hC.lk
  have hl : lv_has ls 4 [(0, .int (4 : Int32)), (1, .int p0), (2, .int p1), (3, .int p2)] := hl
  have ea : ∀ o ∈ L, ad o = ad o := fun _ _ => rfl
  refine lv_iload_n hC.x hC.b dX11_newWalker_0 rfl (lv_at hl 0 rfl) ?_
  refine lv_tableIn (off := 72) (tgt := 73) hC.x hC.b dX11_newWalker_1 (by decide) (by decide) (by decide +kernel) (by decide) ?_
  refine n_new (j := w) (ty := tyX7) hC hG hA f_w s_w (nc2 rfl) rfl inW7 tyX7_ok (fun k hk => by rcases (show k = 0 ∨ k = 1 ∨ k = 2 ∨ k = 3 ∨ k = 4 ∨ k = 5 by omega) with rfl | rfl | rfl | rfl | rfl | rfl <;> rfl) kw211 kw212 kw213 (by decide) (by decide) dX11_newWalker_73 (fun ad' H b0 e1 hb hG => ?_)
  have m_w := List.mem_cons_self (a := w) (l := L)
  have f_wp1 : w + 1 ∉ w :: L := fun z => (List.mem_cons.mp z).elim (fun z => by omega) f_wp1
  have ea : ∀ o ∈ L, _ = _ := fun o ho => (e1 o ho).trans (ea o ho)
  have h_w := hb
  refine lv_dup hC.x hC.b dX11_newWalker_76 rfl ?_
  refine lv_iload_n hC.x hC.b dX11_newWalker_77 rfl (lv_at hl 1 rfl) ?_
  refine lv_iload_n hC.x hC.b dX11_newWalker_78 rfl (lv_at hl 2 rfl) ?_
  refine lv_iload_n hC.x hC.b dX11_newWalker_79 rfl (lv_at hl 3 rfl) ?_
  refine n_init (b := b0) (As := [.int p0, .int p1, .int p2]) (rest := [.ref b0]) (mc := 1) (ms := 20) hC hX EZ_bl hG hA (z_W7_4 (p0 := p0) (p1 := p1) (p2 := p2) s_w s_wp1 m_w f_wp1 hG.2.2.1 hG.2.2.2).1 (z_W7_4 (p0 := p0) (p1 := p1) (p2 := p2) s_w s_wp1 m_w f_wp1 hG.2.2.1 hG.2.2.2).2 (by rw [← h_w]; exact n_W7_4 s_w s_wp1 m_w f_wp1 hG.1.1 hG.2.2.1 hG.2.2.2 (fun o ho => hA0 _ (hG.1.2 o ho))) kw241 kw242 kw213 kw243 rfl a_X7_init.1 a_X7_init.2 rfl hl.1 ⟨by decide, by decide, by decide, by decide⟩ (Nat.le_of_ble_eq_true rfl) dX11_newWalker_80 (fun ad' H locs e1 hG => ?_)
  have h_w := (e1 _ m_w).trans h_w
  have ea : ∀ o ∈ L, _ = _ := fun o ho => (e1 o (List.mem_cons_of_mem _ ho)).trans (ea o ho)
  have m_w := List.mem_cons_of_mem (w + 1) m_w
  have m_wp1 := List.mem_cons_self (a := w + 1) (l := w :: L)
  generalize hm1 : i_W7_4 w p0 p1 p2 mem = mm1 at hG
  refine W.widen (k := 2) (n := 26) (by decide) (by decide) ?_
  subst hm1
  have hq : ∀ t : State, t.heap = _ → s.WarmedH t.vm → gNw (EZ sz0 adK adV) D cy sh ad L ((w + 1) :: w :: L) _ (fun z => some (.ref (z w))) s.heap.size args s (.returned (some (.ref b0))) t := fun t ht hW => ⟨⟨ad', ea, (by show _ = Outcome.returned (some (Value.ref (ad' w))); rw [h_w]), by rw [ht]; exact hG.2.1.1, hG.1⟩, hG.2.1.2.F ht⟩
  exact W.aret hC.x hC.b hr (Or.inl ⟨_, rfl⟩) (Or.inr ⟨_, rfl⟩) hq hG.2.1.2.2.2 dX11_newWalker_83
def i_W9_5 (w : Nat) (p0 : Int32) (p1 : Int32) (p2 : Int32) (mem : gMem) : gMem := (gsI (gsI (gsI (gsR mem w 4 (some (w + 1))) w 0 p0) w 1 p1) w 2 p2)
theorem z_W9_5 {sh : Nat → gShp} {L : List Nat} {mem : gMem} {w : Nat} {p0 p1 p2 : Int32} (s_w : sh w = (0, 0, [0, 0, 0, 0, 1, 0])) (s_wp1 : sh (w + 1) = (1, 20, [])) (m_w : w ∈ L) (f_wp1 : w + 1 ∉ L) (hz : gZ L mem) (hc : gCl sh L mem) : gZ ((w + 1) :: L) (i_W9_5 w p0 p1 p2 mem) ∧ gCl sh ((w + 1) :: L) (i_W9_5 w p0 p1 p2 mem) := by
  have hc := gCl_up (j := w + 1) hc hz f_wp1 (by rw [s_wp1]; decide)
  have hz := gZ_up (j := w + 1) hz
  have m_wp1 := List.mem_cons_self (a := w + 1) (l := L)
  have m_w := List.mem_cons_of_mem (w + 1) m_w
  have hz := gZ_sR (o := w) (k := 4) (v := some (w + 1)) hz m_w
  have hc := gCl_sR (o := w) (k := 4) (v := some (w + 1)) hc (fun b hb => by cases hb; exact m_wp1)
  have hz := gZ_sI (o := w) (k := 0) (v := p0) hz m_w
  have hc := gCl_sI (o := w) (k := 0) (v := p0) hc
  have hz := gZ_sI (o := w) (k := 1) (v := p1) hz m_w
  have hc := gCl_sI (o := w) (k := 1) (v := p1) hc
  have hz := gZ_sI (o := w) (k := 2) (v := p2) hz m_w
  have hc := gCl_sI (o := w) (k := 2) (v := p2) hc
  exact ⟨hz, hc⟩
theorem n_W9_5 {l : Launch} {sz0 : Nat} {adK adV : Nat → Nat} {D : va_G} {cy : Nat → ClassId} {sh : Nat → gShp} {ad : Nat → Nat} {L : List Nat} {mem : gMem} {w : Nat} {p0 p1 p2 : Int32} (s_w : sh w = (0, 0, [0, 0, 0, 0, 1, 0])) (s_wp1 : sh (w + 1) = (1, 20, [])) (m_w : w ∈ L) (f_wp1 : w + 1 ∉ L) (hk : gOk ad L) (hz : gZ L mem) (hc : gCl sh L mem) (h0L : ∀ o ∈ L, sz0 ≤ ad o) : gNew l yX9_init cX9_init 4 none 1 12 1 20 (EZ sz0 adK adV) D cy sh sh ad L ((w + 1) :: L) [.ref (ad w), .int p0, .int p1, .int p2] mem (i_W9_5 w p0 p1 p2 mem) (fun _ => none) := by
  refine n_start (own := RX9) rfl rfl hk hz hc (fun sz s hs hEs => EZ_XN h0L hs hEs) (Nat.le_of_ble_eq_true rfl) (fun p e s m args below meth c R Q A ha hR hAe hA hQ hEs hC hin hr hX H locs ls hG hl => ?_)
  have hA0 : ∀ q, A q → sz0 ≤ q := by rw [hAe]; exact aA_ge h0L hEs.1
  subst hR; subst hAe; subst hQ
  have hlocks := hC.lk
  have hl : lv_has ls 4 [(0, .ref (ad w)), (1, .int p0), (2, .int p1), (3, .int p2)] := hl
  obtain ⟨a0, h_w⟩ : ∃ a, ad w = a := ⟨_, rfl⟩
  rw [h_w] at hl
  have ea : ∀ o ∈ L, ad o = ad o := fun _ _ => rfl
  refine lv_aload_n hC.x hC.b dX9_init_0 rfl (lv_at hl 0 rfl) ?_
  refine n_obj hC hl.1 kw228 ⟨by decide, by decide⟩ dX9_init_1 ?_
  refine lv_aload_n hC.x hC.b dX9_init_4 rfl (lv_at hl 0 rfl) ?_
  refine lv_bipush (v := (20 : Int32)) hC.x hC.b dX9_init_5 rfl ?_
  refine n_newI (j := w + 1) (N := 20) hC hG hA f_wp1 s_wp1 kw30 rfl (by decide) (by decide) (by decide) dX9_init_7 (fun ad' H b0 e1 hb hG => ?_)
  have h_w := (e1 _ m_w).trans h_w
  have m_w := List.mem_cons_of_mem (w + 1) m_w
  have m_wp1 := List.mem_cons_self (a := w + 1) (l := L)
  have ea : ∀ o ∈ L, _ = _ := fun o ho => (e1 o ho).trans (ea o ho)
  have h_wp1 := hb
  refine n_putr (j := w + 1) hC hin hG pu_X9_9_0 h_w h_wp1 m_wp1 m_w s_w rfl (ty := (.array .int)) (by decide +kernel) (fun q => ⟨rfl, rfl⟩) dX9_init_9 (fun H locs hG => ?_)
  generalize hm1 : gsR mem w 4 (some (w + 1)) = mm1 at hG
  refine lv_aload_n hC.x hC.b dX9_init_12 rfl (lv_at hl 0 rfl) ?_
  refine lv_iload_n hC.x hC.b dX9_init_13 rfl (lv_at hl 1 rfl) ?_
  refine n_puti hC hin hG pu_X9_15_0 h_w m_w s_w rfl dX9_init_14 (fun H locs hG => ?_)
  generalize hm2 : gsI mm1 w 0 p0 = mm2 at hG
  refine lv_aload_n hC.x hC.b dX9_init_17 rfl (lv_at hl 0 rfl) ?_
  refine lv_iload_n hC.x hC.b dX9_init_18 rfl (lv_at hl 2 rfl) ?_
  refine n_puti hC hin hG pu_X9_19_0 h_w m_w s_w rfl dX9_init_19 (fun H locs hG => ?_)
  generalize hm3 : gsI mm2 w 1 p1 = mm3 at hG
  refine lv_aload_n hC.x hC.b dX9_init_22 rfl (lv_at hl 0 rfl) ?_
  refine lv_iload_n hC.x hC.b dX9_init_23 rfl (lv_at hl 3 rfl) ?_
  refine n_puti hC hin hG pu_X9_22_0 h_w m_w s_w rfl dX9_init_24 (fun H locs hG => ?_)
  generalize hm4 : gsI mm3 w 2 p2 = mm4 at hG
  refine W.widen (k := 1) (n := 20) (by decide) (by decide) ?_
  subst hm1 hm2 hm3 hm4
  exact W.vret hC.x hC.b hr (fun t ht hW => ⟨⟨ad', ea, rfl, by rw [ht]; exact hG.2.1.1, hG.1⟩, hG.2.1.2.F ht⟩) hG.2.1.2.2.2 dX9_init_27
def i_W6_5 (w : Nat) (p0 : Int32) (p1 : Int32) (p2 : Int32) (mem : gMem) : gMem := (i_W9_5 w p0 p1 p2 mem)
theorem z_W6_5 {sh : Nat → gShp} {L : List Nat} {mem : gMem} {w : Nat} {p0 p1 p2 : Int32} (s_w : sh w = (0, 0, [0, 0, 0, 0, 1, 0])) (s_wp1 : sh (w + 1) = (1, 20, [])) (m_w : w ∈ L) (f_wp1 : w + 1 ∉ L) (hz : gZ L mem) (hc : gCl sh L mem) : gZ ((w + 1) :: L) (i_W6_5 w p0 p1 p2 mem) ∧ gCl sh ((w + 1) :: L) (i_W6_5 w p0 p1 p2 mem) := by
  have hzc := z_W9_5 (p0 := p0) (p1 := p1) (p2 := p2) s_w s_wp1 m_w f_wp1 hz hc
  have hz := hzc.1
  have hc := hzc.2
  have m_w := List.mem_cons_of_mem (w + 1) m_w
  have m_wp1 := List.mem_cons_self (a := w + 1) (l := L)
  exact ⟨hz, hc⟩
theorem n_W6_5 {l : Launch} {sz0 : Nat} {adK adV : Nat → Nat} {D : va_G} {cy : Nat → ClassId} {sh : Nat → gShp} {ad : Nat → Nat} {L : List Nat} {mem : gMem} {w : Nat} {p0 p1 p2 : Int32} (s_w : sh w = (0, 0, [0, 0, 0, 0, 1, 0])) (s_wp1 : sh (w + 1) = (1, 20, [])) (m_w : w ∈ L) (f_wp1 : w + 1 ∉ L) (hk : gOk ad L) (hz : gZ L mem) (hc : gCl sh L mem) (h0L : ∀ o ∈ L, sz0 ≤ ad o) : gNew l yX6_init cX6_init 4 none 2 35 1 20 (EZ sz0 adK adV) D cy sh sh ad L ((w + 1) :: L) [.ref (ad w), .int p0, .int p1, .int p2] mem (i_W6_5 w p0 p1 p2 mem) (fun _ => none) := by
  refine n_start (own := RX6) rfl rfl hk hz hc (fun sz s hs hEs => EZ_XN h0L hs hEs) (Nat.le_of_ble_eq_true rfl) (fun p e s m args below meth c R Q A ha hR hAe hA hQ hEs hC hin hr hX H locs ls hG hl => ?_)
  have hA0 : ∀ q, A q → sz0 ≤ q := by rw [hAe]; exact aA_ge h0L hEs.1
  subst hR; subst hAe; subst hQ
  have hlocks := hC.lk
  have hl : lv_has ls 4 [(0, .ref (ad w)), (1, .int p0), (2, .int p1), (3, .int p2)] := hl
  obtain ⟨a0, h_w⟩ : ∃ a, ad w = a := ⟨_, rfl⟩
  rw [h_w] at hl
  have ea : ∀ o ∈ L, ad o = ad o := fun _ _ => rfl
  refine lv_aload_n hC.x hC.b dX6_init_0 rfl (lv_at hl 0 rfl) ?_
  refine lv_iload_n hC.x hC.b dX6_init_1 rfl (lv_at hl 1 rfl) ?_
  refine lv_iload_n hC.x hC.b dX6_init_2 rfl (lv_at hl 2 rfl) ?_
  refine lv_iload_n hC.x hC.b dX6_init_3 rfl (lv_at hl 3 rfl) ?_
  refine n_init (b := a0) (As := [.int p0, .int p1, .int p2]) (rest := []) (mc := 1) (ms := 20) hC hX EZ_bl hG hA (z_W9_5 (p0 := p0) (p1 := p1) (p2 := p2) s_w s_wp1 m_w f_wp1 hG.2.2.1 hG.2.2.2).1 (z_W9_5 (p0 := p0) (p1 := p1) (p2 := p2) s_w s_wp1 m_w f_wp1 hG.2.2.1 hG.2.2.2).2 (by rw [← h_w]; exact n_W9_5 s_w s_wp1 m_w f_wp1 hG.1.1 hG.2.2.1 hG.2.2.2 (fun o ho => hA0 _ (hG.1.2 o ho))) kw236 kw226 kw221 kw227 rfl a_X9_init.1 a_X9_init.2 rfl hl.1 ⟨by decide, by decide, by decide, by decide⟩ (Nat.le_of_ble_eq_true rfl) dX6_init_4 (fun ad' H locs e1 hG => ?_)
  have h_w := (e1 _ m_w).trans h_w
  have ea : ∀ o ∈ L, _ = _ := fun o ho => (e1 o ho).trans (ea o ho)
  have m_w := List.mem_cons_of_mem (w + 1) m_w
  have m_wp1 := List.mem_cons_self (a := w + 1) (l := L)
  generalize hm1 : i_W9_5 w p0 p1 p2 mem = mm1 at hG
  refine W.widen (k := 1) (n := 20) (by decide) (by decide) ?_
  subst hm1
  exact W.vret hC.x hC.b hr (fun t ht hW => ⟨⟨ad', ea, rfl, by rw [ht]; exact hG.2.1.1, hG.1⟩, hG.2.1.2.F ht⟩) hG.2.1.2.2.2 dX6_init_7
def i_W0_5 (w : Nat) (p0 : Int32) (p1 : Int32) (p2 : Int32) (mem : gMem) : gMem := (i_W6_5 w p0 p1 p2 mem)
theorem z_W0_5 {sh : Nat → gShp} {L : List Nat} {mem : gMem} {w : Nat} {p0 p1 p2 : Int32} (s_w : sh w = (0, 0, [0, 0, 0, 0, 1, 0])) (s_wp1 : sh (w + 1) = (1, 20, [])) (m_w : w ∈ L) (f_wp1 : w + 1 ∉ L) (hz : gZ L mem) (hc : gCl sh L mem) : gZ ((w + 1) :: L) (i_W0_5 w p0 p1 p2 mem) ∧ gCl sh ((w + 1) :: L) (i_W0_5 w p0 p1 p2 mem) := by
  have hzc := z_W6_5 (p0 := p0) (p1 := p1) (p2 := p2) s_w s_wp1 m_w f_wp1 hz hc
  have hz := hzc.1
  have hc := hzc.2
  have m_w := List.mem_cons_of_mem (w + 1) m_w
  have m_wp1 := List.mem_cons_self (a := w + 1) (l := L)
  exact ⟨hz, hc⟩
theorem n_W0_5 {l : Launch} {sz0 : Nat} {adK adV : Nat → Nat} {D : va_G} {cy : Nat → ClassId} {sh : Nat → gShp} {ad : Nat → Nat} {L : List Nat} {mem : gMem} {w : Nat} {p0 p1 p2 : Int32} (s_w : sh w = (0, 0, [0, 0, 0, 0, 1, 0])) (s_wp1 : sh (w + 1) = (1, 20, [])) (m_w : w ∈ L) (f_wp1 : w + 1 ∉ L) (hk : gOk ad L) (hz : gZ L mem) (hc : gCl sh L mem) (h0L : ∀ o ∈ L, sz0 ≤ ad o) : gNew l yX0_init cX0_init 4 none 3 58 1 20 (EZ sz0 adK adV) D cy sh sh ad L ((w + 1) :: L) [.ref (ad w), .int p0, .int p1, .int p2] mem (i_W0_5 w p0 p1 p2 mem) (fun _ => none) := by
  refine n_start (own := RX0) rfl rfl hk hz hc (fun sz s hs hEs => EZ_XN h0L hs hEs) (Nat.le_of_ble_eq_true rfl) (fun p e s m args below meth c R Q A ha hR hAe hA hQ hEs hC hin hr hX H locs ls hG hl => ?_)
  have hA0 : ∀ q, A q → sz0 ≤ q := by rw [hAe]; exact aA_ge h0L hEs.1
  subst hR; subst hAe; subst hQ
  have hlocks := hC.lk
  have hl : lv_has ls 4 [(0, .ref (ad w)), (1, .int p0), (2, .int p1), (3, .int p2)] := hl
  obtain ⟨a0, h_w⟩ : ∃ a, ad w = a := ⟨_, rfl⟩
  rw [h_w] at hl
  have ea : ∀ o ∈ L, ad o = ad o := fun _ _ => rfl
  refine lv_aload_n hC.x hC.b dX0_init_0 rfl (lv_at hl 0 rfl) ?_
  refine lv_iload_n hC.x hC.b dX0_init_1 rfl (lv_at hl 1 rfl) ?_
  refine lv_iload_n hC.x hC.b dX0_init_2 rfl (lv_at hl 2 rfl) ?_
  refine lv_iload_n hC.x hC.b dX0_init_3 rfl (lv_at hl 3 rfl) ?_
  refine n_init (b := a0) (As := [.int p0, .int p1, .int p2]) (rest := []) (mc := 1) (ms := 20) hC hX EZ_bl hG hA (z_W6_5 (p0 := p0) (p1 := p1) (p2 := p2) s_w s_wp1 m_w f_wp1 hG.2.2.1 hG.2.2.2).1 (z_W6_5 (p0 := p0) (p1 := p1) (p2 := p2) s_w s_wp1 m_w f_wp1 hG.2.2.1 hG.2.2.2).2 (by rw [← h_w]; exact n_W6_5 s_w s_wp1 m_w f_wp1 hG.1.1 hG.2.2.1 hG.2.2.2 (fun o ho => hA0 _ (hG.1.2 o ho))) kw248 kw234 kw207 kw235 rfl a_X6_init.1 a_X6_init.2 rfl hl.1 ⟨by decide, by decide, by decide, by decide⟩ (Nat.le_of_ble_eq_true rfl) dX0_init_4 (fun ad' H locs e1 hG => ?_)
  have h_w := (e1 _ m_w).trans h_w
  have ea : ∀ o ∈ L, _ = _ := fun o ho => (e1 o ho).trans (ea o ho)
  have m_w := List.mem_cons_of_mem (w + 1) m_w
  have m_wp1 := List.mem_cons_self (a := w + 1) (l := L)
  generalize hm1 : i_W6_5 w p0 p1 p2 mem = mm1 at hG
  refine W.widen (k := 1) (n := 20) (by decide) (by decide) ?_
  subst hm1
  exact W.vret hC.x hC.b hr (fun t ht hW => ⟨⟨ad', ea, rfl, by rw [ht]; exact hG.2.1.1, hG.1⟩, hG.2.1.2.F ht⟩) hG.2.1.2.2.2 dX0_init_7
def i_NW_5 (w : Nat) (p0 : Int32) (p1 : Int32) (p2 : Int32) (mem : gMem) : gMem := (i_W0_5 w p0 p1 p2 mem)
theorem z_NW_5 {sh : Nat → gShp} {L : List Nat} {mem : gMem} {w : Nat} {p0 p1 p2 : Int32} (s_w : sh w = (0, 0, [0, 0, 0, 0, 1, 0])) (s_wp1 : sh (w + 1) = (1, 20, [])) (f_w : w ∉ L) (f_wp1 : w + 1 ∉ L) (hz : gZ L mem) (hc : gCl sh L mem) : gZ ((w + 1) :: w :: L) (i_NW_5 w p0 p1 p2 mem) ∧ gCl sh ((w + 1) :: w :: L) (i_NW_5 w p0 p1 p2 mem) := by
  have hc := gCl_up (j := w) hc hz f_w (by rw [s_w]; decide)
  have hz := gZ_up (j := w) hz
  have m_w := List.mem_cons_self (a := w) (l := L)
  have f_wp1 : w + 1 ∉ w :: L := fun z => (List.mem_cons.mp z).elim (fun z => by omega) f_wp1
  have hzc := z_W0_5 (p0 := p0) (p1 := p1) (p2 := p2) s_w s_wp1 m_w f_wp1 hz hc
  have hz := hzc.1
  have hc := hzc.2
  have m_w := List.mem_cons_of_mem (w + 1) m_w
  have m_wp1 := List.mem_cons_self (a := w + 1) (l := w :: L)
  exact ⟨hz, hc⟩
theorem n_NW_5 {l : Launch} {sz0 : Nat} {adK adV : Nat → Nat} {D : va_G} {cy : Nat → ClassId} {sh : Nat → gShp} {ad : Nat → Nat} {L : List Nat} {mem : gMem} {w : Nat} {p0 p1 p2 : Int32} (s_w : sh w = (0, 0, [0, 0, 0, 0, 1, 0])) (s_wp1 : sh (w + 1) = (1, 20, [])) (f_w : w ∉ L) (f_wp1 : w + 1 ∉ L) (hk : gOk ad L) (hz : gZ L mem) (hc : gCl sh L mem) (h0L : ∀ o ∈ L, sz0 ≤ ad o) : gNew l yX11_newWalker cX11_newWalker 4 ((some (.object "OnTiptoe$Walker"))) 4 81 2 26 (EZ sz0 adK adV) D cy sh sh ad L ((w + 1) :: w :: L) [.int (5 : Int32), .int p0, .int p1, .int p2] mem (i_NW_5 w p0 p1 p2 mem) (fun z => some (.ref (z w))) := by
  refine n_start (own := RX11) rfl rfl hk hz hc (fun sz s hs hEs => EZ_XN h0L hs hEs) (Nat.le_of_ble_eq_true rfl) (fun p e s m args below meth c R Q A ha hR hAe hA hQ hEs hC hin hr hX H locs ls hG hl => ?_)
  have hA0 : ∀ q, A q → sz0 ≤ q := by rw [hAe]; exact aA_ge h0L hEs.1
  subst hR; subst hAe; subst hQ
  have hlocks := hC.lk
  have hl : lv_has ls 4 [(0, .int (5 : Int32)), (1, .int p0), (2, .int p1), (3, .int p2)] := hl
  have ea : ∀ o ∈ L, ad o = ad o := fun _ _ => rfl
  refine lv_iload_n hC.x hC.b dX11_newWalker_0 rfl (lv_at hl 0 rfl) ?_
  refine lv_tableIn (off := 83) (tgt := 84) hC.x hC.b dX11_newWalker_1 (by decide) (by decide) (by decide +kernel) (by decide) ?_
  refine n_new (j := w) (ty := tyX0) hC hG hA f_w s_w (nc2 rfl) rfl inW0 tyX0_ok (fun k hk => by rcases (show k = 0 ∨ k = 1 ∨ k = 2 ∨ k = 3 ∨ k = 4 ∨ k = 5 by omega) with rfl | rfl | rfl | rfl | rfl | rfl <;> rfl) kw214 kw215 kw216 (by decide) (by decide) dX11_newWalker_84 (fun ad' H b0 e1 hb hG => ?_)
  have m_w := List.mem_cons_self (a := w) (l := L)
  have f_wp1 : w + 1 ∉ w :: L := fun z => (List.mem_cons.mp z).elim (fun z => by omega) f_wp1
  have ea : ∀ o ∈ L, _ = _ := fun o ho => (e1 o ho).trans (ea o ho)
  have h_w := hb
  refine lv_dup hC.x hC.b dX11_newWalker_87 rfl ?_
  refine lv_iload_n hC.x hC.b dX11_newWalker_88 rfl (lv_at hl 1 rfl) ?_
  refine lv_iload_n hC.x hC.b dX11_newWalker_89 rfl (lv_at hl 2 rfl) ?_
  refine lv_iload_n hC.x hC.b dX11_newWalker_90 rfl (lv_at hl 3 rfl) ?_
  refine n_init (b := b0) (As := [.int p0, .int p1, .int p2]) (rest := [.ref b0]) (mc := 1) (ms := 20) hC hX EZ_bl hG hA (z_W0_5 (p0 := p0) (p1 := p1) (p2 := p2) s_w s_wp1 m_w f_wp1 hG.2.2.1 hG.2.2.2).1 (z_W0_5 (p0 := p0) (p1 := p1) (p2 := p2) s_w s_wp1 m_w f_wp1 hG.2.2.1 hG.2.2.2).2 (by rw [← h_w]; exact n_W0_5 s_w s_wp1 m_w f_wp1 hG.1.1 hG.2.2.1 hG.2.2.2 (fun o ho => hA0 _ (hG.1.2 o ho))) kw245 kw246 kw216 kw247 rfl a_X0_init.1 a_X0_init.2 rfl hl.1 ⟨by decide, by decide, by decide, by decide⟩ (Nat.le_of_ble_eq_true rfl) dX11_newWalker_91 (fun ad' H locs e1 hG => ?_)
  have h_w := (e1 _ m_w).trans h_w
  have ea : ∀ o ∈ L, _ = _ := fun o ho => (e1 o (List.mem_cons_of_mem _ ho)).trans (ea o ho)
  have m_w := List.mem_cons_of_mem (w + 1) m_w
  have m_wp1 := List.mem_cons_self (a := w + 1) (l := w :: L)
  generalize hm1 : i_W0_5 w p0 p1 p2 mem = mm1 at hG
  refine W.widen (k := 2) (n := 26) (by decide) (by decide) ?_
  subst hm1
  have hq : ∀ t : State, t.heap = _ → s.WarmedH t.vm → gNw (EZ sz0 adK adV) D cy sh ad L ((w + 1) :: w :: L) _ (fun z => some (.ref (z w))) s.heap.size args s (.returned (some (.ref b0))) t := fun t ht hW => ⟨⟨ad', ea, (by show _ = Outcome.returned (some (Value.ref (ad' w))); rw [h_w]), by rw [ht]; exact hG.2.1.1, hG.1⟩, hG.2.1.2.F ht⟩
  exact W.aret hC.x hC.b hr (Or.inl ⟨_, rfl⟩) (Or.inr ⟨_, rfl⟩) hq hG.2.1.2.2.2 dX11_newWalker_94
def i_W9_6 (w : Nat) (p0 : Int32) (p1 : Int32) (p2 : Int32) (mem : gMem) : gMem := (gsI (gsI (gsI (gsR mem w 4 (some (w + 1))) w 0 p0) w 1 p1) w 2 p2)
theorem z_W9_6 {sh : Nat → gShp} {L : List Nat} {mem : gMem} {w : Nat} {p0 p1 p2 : Int32} (s_w : sh w = (0, 8, [0, 0, 0, 0, 1, 0, 1, 1])) (s_wp1 : sh (w + 1) = (1, 20, [])) (m_w : w ∈ L) (f_wp1 : w + 1 ∉ L) (hz : gZ L mem) (hc : gCl sh L mem) : gZ ((w + 1) :: L) (i_W9_6 w p0 p1 p2 mem) ∧ gCl sh ((w + 1) :: L) (i_W9_6 w p0 p1 p2 mem) := by
  have hc := gCl_up (j := w + 1) hc hz f_wp1 (by rw [s_wp1]; decide)
  have hz := gZ_up (j := w + 1) hz
  have m_wp1 := List.mem_cons_self (a := w + 1) (l := L)
  have m_w := List.mem_cons_of_mem (w + 1) m_w
  have hz := gZ_sR (o := w) (k := 4) (v := some (w + 1)) hz m_w
  have hc := gCl_sR (o := w) (k := 4) (v := some (w + 1)) hc (fun b hb => by cases hb; exact m_wp1)
  have hz := gZ_sI (o := w) (k := 0) (v := p0) hz m_w
  have hc := gCl_sI (o := w) (k := 0) (v := p0) hc
  have hz := gZ_sI (o := w) (k := 1) (v := p1) hz m_w
  have hc := gCl_sI (o := w) (k := 1) (v := p1) hc
  have hz := gZ_sI (o := w) (k := 2) (v := p2) hz m_w
  have hc := gCl_sI (o := w) (k := 2) (v := p2) hc
  exact ⟨hz, hc⟩
theorem n_W9_6 {l : Launch} {sz0 : Nat} {adK adV : Nat → Nat} {D : va_G} {cy : Nat → ClassId} {sh : Nat → gShp} {ad : Nat → Nat} {L : List Nat} {mem : gMem} {w : Nat} {p0 p1 p2 : Int32} (s_w : sh w = (0, 8, [0, 0, 0, 0, 1, 0, 1, 1])) (s_wp1 : sh (w + 1) = (1, 20, [])) (m_w : w ∈ L) (f_wp1 : w + 1 ∉ L) (hk : gOk ad L) (hz : gZ L mem) (hc : gCl sh L mem) (h0L : ∀ o ∈ L, sz0 ≤ ad o) : gNew l yX9_init cX9_init 4 none 1 12 1 20 (EZ sz0 adK adV) D cy sh sh ad L ((w + 1) :: L) [.ref (ad w), .int p0, .int p1, .int p2] mem (i_W9_6 w p0 p1 p2 mem) (fun _ => none) := by
  refine n_start (own := RX9) rfl rfl hk hz hc (fun sz s hs hEs => EZ_XN h0L hs hEs) (Nat.le_of_ble_eq_true rfl) (fun p e s m args below meth c R Q A ha hR hAe hA hQ hEs hC hin hr hX H locs ls hG hl => ?_)
  have hA0 : ∀ q, A q → sz0 ≤ q := by rw [hAe]; exact aA_ge h0L hEs.1
  subst hR; subst hAe; subst hQ
  have hlocks := hC.lk
  have hl : lv_has ls 4 [(0, .ref (ad w)), (1, .int p0), (2, .int p1), (3, .int p2)] := hl
  obtain ⟨a0, h_w⟩ : ∃ a, ad w = a := ⟨_, rfl⟩
  rw [h_w] at hl
  have ea : ∀ o ∈ L, ad o = ad o := fun _ _ => rfl
  refine lv_aload_n hC.x hC.b dX9_init_0 rfl (lv_at hl 0 rfl) ?_
  refine n_obj hC hl.1 kw228 ⟨by decide, by decide⟩ dX9_init_1 ?_
  refine lv_aload_n hC.x hC.b dX9_init_4 rfl (lv_at hl 0 rfl) ?_
  refine lv_bipush (v := (20 : Int32)) hC.x hC.b dX9_init_5 rfl ?_
  refine n_newI (j := w + 1) (N := 20) hC hG hA f_wp1 s_wp1 kw30 rfl (by decide) (by decide) (by decide) dX9_init_7 (fun ad' H b0 e1 hb hG => ?_)
  have h_w := (e1 _ m_w).trans h_w
  have m_w := List.mem_cons_of_mem (w + 1) m_w
  have m_wp1 := List.mem_cons_self (a := w + 1) (l := L)
  have ea : ∀ o ∈ L, _ = _ := fun o ho => (e1 o ho).trans (ea o ho)
  have h_wp1 := hb
  refine n_putr (j := w + 1) hC hin hG pu_X9_9_8 h_w h_wp1 m_wp1 m_w s_w rfl (ty := (.array .int)) (by decide +kernel) (fun q => ⟨rfl, rfl⟩) dX9_init_9 (fun H locs hG => ?_)
  generalize hm1 : gsR mem w 4 (some (w + 1)) = mm1 at hG
  refine lv_aload_n hC.x hC.b dX9_init_12 rfl (lv_at hl 0 rfl) ?_
  refine lv_iload_n hC.x hC.b dX9_init_13 rfl (lv_at hl 1 rfl) ?_
  refine n_puti hC hin hG pu_X9_15_8 h_w m_w s_w rfl dX9_init_14 (fun H locs hG => ?_)
  generalize hm2 : gsI mm1 w 0 p0 = mm2 at hG
  refine lv_aload_n hC.x hC.b dX9_init_17 rfl (lv_at hl 0 rfl) ?_
  refine lv_iload_n hC.x hC.b dX9_init_18 rfl (lv_at hl 2 rfl) ?_
  refine n_puti hC hin hG pu_X9_19_8 h_w m_w s_w rfl dX9_init_19 (fun H locs hG => ?_)
  generalize hm3 : gsI mm2 w 1 p1 = mm3 at hG
  refine lv_aload_n hC.x hC.b dX9_init_22 rfl (lv_at hl 0 rfl) ?_
  refine lv_iload_n hC.x hC.b dX9_init_23 rfl (lv_at hl 3 rfl) ?_
  refine n_puti hC hin hG pu_X9_22_8 h_w m_w s_w rfl dX9_init_24 (fun H locs hG => ?_)
  generalize hm4 : gsI mm3 w 2 p2 = mm4 at hG
  refine W.widen (k := 1) (n := 20) (by decide) (by decide) ?_
  subst hm1 hm2 hm3 hm4
  exact W.vret hC.x hC.b hr (fun t ht hW => ⟨⟨ad', ea, rfl, by rw [ht]; exact hG.2.1.1, hG.1⟩, hG.2.1.2.F ht⟩) hG.2.1.2.2.2 dX9_init_27
def i_W5_6 (w : Nat) (p0 : Int32) (p1 : Int32) (p2 : Int32) (mem : gMem) : gMem := (i_W9_6 w p0 p1 p2 mem)
theorem z_W5_6 {sh : Nat → gShp} {L : List Nat} {mem : gMem} {w : Nat} {p0 p1 p2 : Int32} (s_w : sh w = (0, 8, [0, 0, 0, 0, 1, 0, 1, 1])) (s_wp1 : sh (w + 1) = (1, 20, [])) (m_w : w ∈ L) (f_wp1 : w + 1 ∉ L) (hz : gZ L mem) (hc : gCl sh L mem) : gZ ((w + 1) :: L) (i_W5_6 w p0 p1 p2 mem) ∧ gCl sh ((w + 1) :: L) (i_W5_6 w p0 p1 p2 mem) := by
  have hzc := z_W9_6 (p0 := p0) (p1 := p1) (p2 := p2) s_w s_wp1 m_w f_wp1 hz hc
  have hz := hzc.1
  have hc := hzc.2
  have m_w := List.mem_cons_of_mem (w + 1) m_w
  have m_wp1 := List.mem_cons_self (a := w + 1) (l := L)
  exact ⟨hz, hc⟩
theorem n_W5_6 {l : Launch} {sz0 : Nat} {adK adV : Nat → Nat} {D : va_G} {cy : Nat → ClassId} {sh : Nat → gShp} {ad : Nat → Nat} {L : List Nat} {mem : gMem} {w : Nat} {p0 p1 p2 : Int32} (s_w : sh w = (0, 8, [0, 0, 0, 0, 1, 0, 1, 1])) (s_wp1 : sh (w + 1) = (1, 20, [])) (m_w : w ∈ L) (f_wp1 : w + 1 ∉ L) (hk : gOk ad L) (hz : gZ L mem) (hc : gCl sh L mem) (h0L : ∀ o ∈ L, sz0 ≤ ad o) : gNew l yX5_init cX5_init 4 none 2 35 1 20 (EZ sz0 adK adV) D cy sh sh ad L ((w + 1) :: L) [.ref (ad w), .int p0, .int p1, .int p2] mem (i_W5_6 w p0 p1 p2 mem) (fun _ => none) := by
  refine n_start (own := RX5) rfl rfl hk hz hc (fun sz s hs hEs => EZ_XN h0L hs hEs) (Nat.le_of_ble_eq_true rfl) (fun p e s m args below meth c R Q A ha hR hAe hA hQ hEs hC hin hr hX H locs ls hG hl => ?_)
  have hA0 : ∀ q, A q → sz0 ≤ q := by rw [hAe]; exact aA_ge h0L hEs.1
  subst hR; subst hAe; subst hQ
  have hlocks := hC.lk
  have hl : lv_has ls 4 [(0, .ref (ad w)), (1, .int p0), (2, .int p1), (3, .int p2)] := hl
  obtain ⟨a0, h_w⟩ : ∃ a, ad w = a := ⟨_, rfl⟩
  rw [h_w] at hl
  have ea : ∀ o ∈ L, ad o = ad o := fun _ _ => rfl
  refine lv_aload_n hC.x hC.b dX5_init_0 rfl (lv_at hl 0 rfl) ?_
  refine lv_iload_n hC.x hC.b dX5_init_1 rfl (lv_at hl 1 rfl) ?_
  refine lv_iload_n hC.x hC.b dX5_init_2 rfl (lv_at hl 2 rfl) ?_
  refine lv_iload_n hC.x hC.b dX5_init_3 rfl (lv_at hl 3 rfl) ?_
  refine n_init (b := a0) (As := [.int p0, .int p1, .int p2]) (rest := []) (mc := 1) (ms := 20) hC hX EZ_bl hG hA (z_W9_6 (p0 := p0) (p1 := p1) (p2 := p2) s_w s_wp1 m_w f_wp1 hG.2.2.1 hG.2.2.2).1 (z_W9_6 (p0 := p0) (p1 := p1) (p2 := p2) s_w s_wp1 m_w f_wp1 hG.2.2.1 hG.2.2.2).2 (by rw [← h_w]; exact n_W9_6 s_w s_wp1 m_w f_wp1 hG.1.1 hG.2.2.1 hG.2.2.2 (fun o ho => hA0 _ (hG.1.2 o ho))) kw240 kw226 kw221 kw227 rfl a_X9_init.1 a_X9_init.2 rfl hl.1 ⟨by decide, by decide, by decide, by decide⟩ (Nat.le_of_ble_eq_true rfl) dX5_init_4 (fun ad' H locs e1 hG => ?_)
  have h_w := (e1 _ m_w).trans h_w
  have ea : ∀ o ∈ L, _ = _ := fun o ho => (e1 o ho).trans (ea o ho)
  have m_w := List.mem_cons_of_mem (w + 1) m_w
  have m_wp1 := List.mem_cons_self (a := w + 1) (l := L)
  generalize hm1 : i_W9_6 w p0 p1 p2 mem = mm1 at hG
  refine W.widen (k := 1) (n := 20) (by decide) (by decide) ?_
  subst hm1
  exact W.vret hC.x hC.b hr (fun t ht hW => ⟨⟨ad', ea, rfl, by rw [ht]; exact hG.2.1.1, hG.1⟩, hG.2.1.2.F ht⟩) hG.2.1.2.2.2 dX5_init_7
def i_W8_6 (w : Nat) (p0 : Int32) (p1 : Int32) (p2 : Int32) (mem : gMem) : gMem := (gsR (gsR (i_W5_6 w p0 p1 p2 mem) w 6 (some (w + 2))) w 7 (some (w + 3)))
theorem z_W8_6 {sh : Nat → gShp} {L : List Nat} {mem : gMem} {w : Nat} {p0 p1 p2 : Int32} (s_w : sh w = (0, 8, [0, 0, 0, 0, 1, 0, 1, 1])) (s_wp1 : sh (w + 1) = (1, 20, [])) (s_wp2 : sh (w + 2) = (1, 4, [])) (s_wp3 : sh (w + 3) = (1, 4, [])) (m_w : w ∈ L) (f_wp1 : w + 1 ∉ L) (f_wp2 : w + 2 ∉ L) (f_wp3 : w + 3 ∉ L) (hz : gZ L mem) (hc : gCl sh L mem) : gZ ((w + 3) :: (w + 2) :: (w + 1) :: L) (i_W8_6 w p0 p1 p2 mem) ∧ gCl sh ((w + 3) :: (w + 2) :: (w + 1) :: L) (i_W8_6 w p0 p1 p2 mem) := by
  have hzc := z_W5_6 (p0 := p0) (p1 := p1) (p2 := p2) s_w s_wp1 m_w f_wp1 hz hc
  have hz := hzc.1
  have hc := hzc.2
  have m_w := List.mem_cons_of_mem (w + 1) m_w
  have m_wp1 := List.mem_cons_self (a := w + 1) (l := L)
  have f_wp2 : w + 2 ∉ (w + 1) :: L := fun z => (List.mem_cons.mp z).elim (fun z => by omega) f_wp2
  have f_wp3 : w + 3 ∉ (w + 1) :: L := fun z => (List.mem_cons.mp z).elim (fun z => by omega) f_wp3
  have hc := gCl_up (j := w + 2) hc hz f_wp2 (by rw [s_wp2]; decide)
  have hz := gZ_up (j := w + 2) hz
  have m_wp2 := List.mem_cons_self (a := w + 2) (l := (w + 1) :: L)
  have m_w := List.mem_cons_of_mem (w + 2) m_w
  have m_wp1 := List.mem_cons_of_mem (w + 2) m_wp1
  have f_wp3 : w + 3 ∉ (w + 2) :: (w + 1) :: L := fun z => (List.mem_cons.mp z).elim (fun z => by omega) f_wp3
  have hz := gZ_sR (o := w) (k := 6) (v := some (w + 2)) hz m_w
  have hc := gCl_sR (o := w) (k := 6) (v := some (w + 2)) hc (fun b hb => by cases hb; exact m_wp2)
  have hc := gCl_up (j := w + 3) hc hz f_wp3 (by rw [s_wp3]; decide)
  have hz := gZ_up (j := w + 3) hz
  have m_wp3 := List.mem_cons_self (a := w + 3) (l := (w + 2) :: (w + 1) :: L)
  have m_w := List.mem_cons_of_mem (w + 3) m_w
  have m_wp1 := List.mem_cons_of_mem (w + 3) m_wp1
  have m_wp2 := List.mem_cons_of_mem (w + 3) m_wp2
  have hz := gZ_sR (o := w) (k := 7) (v := some (w + 3)) hz m_w
  have hc := gCl_sR (o := w) (k := 7) (v := some (w + 3)) hc (fun b hb => by cases hb; exact m_wp3)
  exact ⟨hz, hc⟩
theorem n_W8_6 {l : Launch} {sz0 : Nat} {adK adV : Nat → Nat} {D : va_G} {cy : Nat → ClassId} {sh : Nat → gShp} {ad : Nat → Nat} {L : List Nat} {mem : gMem} {w : Nat} {p0 p1 p2 : Int32} (s_w : sh w = (0, 8, [0, 0, 0, 0, 1, 0, 1, 1])) (s_wp1 : sh (w + 1) = (1, 20, [])) (s_wp2 : sh (w + 2) = (1, 4, [])) (s_wp3 : sh (w + 3) = (1, 4, [])) (m_w : w ∈ L) (f_wp1 : w + 1 ∉ L) (f_wp2 : w + 2 ∉ L) (f_wp3 : w + 3 ∉ L) (hk : gOk ad L) (hz : gZ L mem) (hc : gCl sh L mem) (h0L : ∀ o ∈ L, sz0 ≤ ad o) : gNew l yX8_init cX8_init 4 none 3 58 3 28 (EZ sz0 adK adV) D cy sh sh ad L ((w + 3) :: (w + 2) :: (w + 1) :: L) [.ref (ad w), .int p0, .int p1, .int p2] mem (i_W8_6 w p0 p1 p2 mem) (fun _ => none) := by
  refine n_start (own := RX8) rfl rfl hk hz hc (fun sz s hs hEs => EZ_XN h0L hs hEs) (Nat.le_of_ble_eq_true rfl) (fun p e s m args below meth c R Q A ha hR hAe hA hQ hEs hC hin hr hX H locs ls hG hl => ?_)
  have hA0 : ∀ q, A q → sz0 ≤ q := by rw [hAe]; exact aA_ge h0L hEs.1
  subst hR; subst hAe; subst hQ
  have hlocks := hC.lk
  have hl : lv_has ls 4 [(0, .ref (ad w)), (1, .int p0), (2, .int p1), (3, .int p2)] := hl
  obtain ⟨a0, h_w⟩ : ∃ a, ad w = a := ⟨_, rfl⟩
  rw [h_w] at hl
  have ea : ∀ o ∈ L, ad o = ad o := fun _ _ => rfl
  refine lv_aload_n hC.x hC.b dX8_init_0 rfl (lv_at hl 0 rfl) ?_
  refine lv_iload_n hC.x hC.b dX8_init_1 rfl (lv_at hl 1 rfl) ?_
  refine lv_iload_n hC.x hC.b dX8_init_2 rfl (lv_at hl 2 rfl) ?_
  refine lv_iload_n hC.x hC.b dX8_init_3 rfl (lv_at hl 3 rfl) ?_
  refine n_init (b := a0) (As := [.int p0, .int p1, .int p2]) (rest := []) (mc := 1) (ms := 20) hC hX EZ_bl hG hA (z_W5_6 (p0 := p0) (p1 := p1) (p2 := p2) s_w s_wp1 m_w f_wp1 hG.2.2.1 hG.2.2.2).1 (z_W5_6 (p0 := p0) (p1 := p1) (p2 := p2) s_w s_wp1 m_w f_wp1 hG.2.2.1 hG.2.2.2).2 (by rw [← h_w]; exact n_W5_6 s_w s_wp1 m_w f_wp1 hG.1.1 hG.2.2.1 hG.2.2.2 (fun o ho => hA0 _ (hG.1.2 o ho))) kw254 kw238 kw210 kw239 rfl a_X5_init.1 a_X5_init.2 rfl hl.1 ⟨by decide, by decide, by decide, by decide⟩ (Nat.le_of_ble_eq_true rfl) dX8_init_4 (fun ad' H locs e1 hG => ?_)
  have h_w := (e1 _ m_w).trans h_w
  have ea : ∀ o ∈ L, _ = _ := fun o ho => (e1 o ho).trans (ea o ho)
  have m_w := List.mem_cons_of_mem (w + 1) m_w
  have m_wp1 := List.mem_cons_self (a := w + 1) (l := L)
  have f_wp2 : w + 2 ∉ (w + 1) :: L := fun z => (List.mem_cons.mp z).elim (fun z => by omega) f_wp2
  have f_wp3 : w + 3 ∉ (w + 1) :: L := fun z => (List.mem_cons.mp z).elim (fun z => by omega) f_wp3
  generalize hm1 : i_W5_6 w p0 p1 p2 mem = mm1 at hG
  refine lv_aload_n hC.x hC.b dX8_init_7 rfl (lv_at hl 0 rfl) ?_
  refine lv_iconst (v := (4 : Int32)) hC.x hC.b dX8_init_8 rfl ?_
  refine n_newI (j := w + 2) (N := 4) hC hG hA f_wp2 s_wp2 kw30 rfl (by decide) (by decide) (by decide) dX8_init_9 (fun ad' H b1 e1 hb hG => ?_)
  have h_w := (e1 _ m_w).trans h_w
  have m_w := List.mem_cons_of_mem (w + 2) m_w
  have m_wp1 := List.mem_cons_of_mem (w + 2) m_wp1
  have m_wp2 := List.mem_cons_self (a := w + 2) (l := (w + 1) :: L)
  have f_wp3 : w + 3 ∉ (w + 2) :: (w + 1) :: L := fun z => (List.mem_cons.mp z).elim (fun z => by omega) f_wp3
  have ea : ∀ o ∈ L, _ = _ := fun o ho => (e1 o (List.mem_cons_of_mem _ ho)).trans (ea o ho)
  have h_wp2 := hb
  refine n_putr (j := w + 2) hC hin hG pu_X8_9_8 h_w h_wp2 m_wp2 m_w s_w rfl (ty := (.array .int)) (by decide +kernel) (fun q => ⟨rfl, rfl⟩) dX8_init_11 (fun H locs hG => ?_)
  generalize hm2 : gsR mm1 w 6 (some (w + 2)) = mm2 at hG
  refine lv_aload_n hC.x hC.b dX8_init_14 rfl (lv_at hl 0 rfl) ?_
  refine lv_iconst (v := (4 : Int32)) hC.x hC.b dX8_init_15 rfl ?_
  refine n_newI (j := w + 3) (N := 4) hC hG hA f_wp3 s_wp3 kw30 rfl (by decide) (by decide) (by decide) dX8_init_16 (fun ad' H b2 e1 hb hG => ?_)
  have h_w := (e1 _ m_w).trans h_w
  have m_w := List.mem_cons_of_mem (w + 3) m_w
  have m_wp1 := List.mem_cons_of_mem (w + 3) m_wp1
  have m_wp2 := List.mem_cons_of_mem (w + 3) m_wp2
  have m_wp3 := List.mem_cons_self (a := w + 3) (l := (w + 2) :: (w + 1) :: L)
  have ea : ∀ o ∈ L, _ = _ := fun o ho => (e1 o (List.mem_cons_of_mem _ (List.mem_cons_of_mem _ ho))).trans (ea o ho)
  have h_wp3 := hb
  refine n_putr (j := w + 3) hC hin hG pu_X8_13_8 h_w h_wp3 m_wp3 m_w s_w rfl (ty := (.array .int)) (by decide +kernel) (fun q => ⟨rfl, rfl⟩) dX8_init_18 (fun H locs hG => ?_)
  generalize hm3 : gsR mm2 w 7 (some (w + 3)) = mm3 at hG
  refine W.widen (k := 3) (n := 28) (by decide) (by decide) ?_
  subst hm1 hm2 hm3
  exact W.vret hC.x hC.b hr (fun t ht hW => ⟨⟨ad', ea, rfl, by rw [ht]; exact hG.2.1.1, hG.1⟩, hG.2.1.2.F ht⟩) hG.2.1.2.2.2 dX8_init_21
def i_NW_6 (w : Nat) (p0 : Int32) (p1 : Int32) (p2 : Int32) (mem : gMem) : gMem := (i_W8_6 w p0 p1 p2 mem)
theorem z_NW_6 {sh : Nat → gShp} {L : List Nat} {mem : gMem} {w : Nat} {p0 p1 p2 : Int32} (s_w : sh w = (0, 8, [0, 0, 0, 0, 1, 0, 1, 1])) (s_wp1 : sh (w + 1) = (1, 20, [])) (s_wp2 : sh (w + 2) = (1, 4, [])) (s_wp3 : sh (w + 3) = (1, 4, [])) (f_w : w ∉ L) (f_wp1 : w + 1 ∉ L) (f_wp2 : w + 2 ∉ L) (f_wp3 : w + 3 ∉ L) (hz : gZ L mem) (hc : gCl sh L mem) : gZ ((w + 3) :: (w + 2) :: (w + 1) :: w :: L) (i_NW_6 w p0 p1 p2 mem) ∧ gCl sh ((w + 3) :: (w + 2) :: (w + 1) :: w :: L) (i_NW_6 w p0 p1 p2 mem) := by
  have hc := gCl_up (j := w) hc hz f_w (by rw [s_w]; decide)
  have hz := gZ_up (j := w) hz
  have m_w := List.mem_cons_self (a := w) (l := L)
  have f_wp1 : w + 1 ∉ w :: L := fun z => (List.mem_cons.mp z).elim (fun z => by omega) f_wp1
  have f_wp2 : w + 2 ∉ w :: L := fun z => (List.mem_cons.mp z).elim (fun z => by omega) f_wp2
  have f_wp3 : w + 3 ∉ w :: L := fun z => (List.mem_cons.mp z).elim (fun z => by omega) f_wp3
  have hzc := z_W8_6 (p0 := p0) (p1 := p1) (p2 := p2) s_w s_wp1 s_wp2 s_wp3 m_w f_wp1 f_wp2 f_wp3 hz hc
  have hz := hzc.1
  have hc := hzc.2
  have m_w := List.mem_cons_of_mem (w + 1) m_w
  have m_wp1 := List.mem_cons_self (a := w + 1) (l := w :: L)
  have f_wp2 : w + 2 ∉ (w + 1) :: w :: L := fun z => (List.mem_cons.mp z).elim (fun z => by omega) f_wp2
  have f_wp3 : w + 3 ∉ (w + 1) :: w :: L := fun z => (List.mem_cons.mp z).elim (fun z => by omega) f_wp3
  have m_w := List.mem_cons_of_mem (w + 2) m_w
  have m_wp1 := List.mem_cons_of_mem (w + 2) m_wp1
  have m_wp2 := List.mem_cons_self (a := w + 2) (l := (w + 1) :: w :: L)
  have f_wp3 : w + 3 ∉ (w + 2) :: (w + 1) :: w :: L := fun z => (List.mem_cons.mp z).elim (fun z => by omega) f_wp3
  have m_w := List.mem_cons_of_mem (w + 3) m_w
  have m_wp1 := List.mem_cons_of_mem (w + 3) m_wp1
  have m_wp2 := List.mem_cons_of_mem (w + 3) m_wp2
  have m_wp3 := List.mem_cons_self (a := w + 3) (l := (w + 2) :: (w + 1) :: w :: L)
  exact ⟨hz, hc⟩
theorem n_NW_6 {l : Launch} {sz0 : Nat} {adK adV : Nat → Nat} {D : va_G} {cy : Nat → ClassId} {sh : Nat → gShp} {ad : Nat → Nat} {L : List Nat} {mem : gMem} {w : Nat} {p0 p1 p2 : Int32} (s_w : sh w = (0, 8, [0, 0, 0, 0, 1, 0, 1, 1])) (s_wp1 : sh (w + 1) = (1, 20, [])) (s_wp2 : sh (w + 2) = (1, 4, [])) (s_wp3 : sh (w + 3) = (1, 4, [])) (f_w : w ∉ L) (f_wp1 : w + 1 ∉ L) (f_wp2 : w + 2 ∉ L) (f_wp3 : w + 3 ∉ L) (hk : gOk ad L) (hz : gZ L mem) (hc : gCl sh L mem) (h0L : ∀ o ∈ L, sz0 ≤ ad o) : gNew l yX11_newWalker cX11_newWalker 4 ((some (.object "OnTiptoe$Walker"))) 4 81 4 36 (EZ sz0 adK adV) D cy sh sh ad L ((w + 3) :: (w + 2) :: (w + 1) :: w :: L) [.int (6 : Int32), .int p0, .int p1, .int p2] mem (i_NW_6 w p0 p1 p2 mem) (fun z => some (.ref (z w))) := by
  refine n_start (own := RX11) rfl rfl hk hz hc (fun sz s hs hEs => EZ_XN h0L hs hEs) (Nat.le_of_ble_eq_true rfl) (fun p e s m args below meth c R Q A ha hR hAe hA hQ hEs hC hin hr hX H locs ls hG hl => ?_)
  have hA0 : ∀ q, A q → sz0 ≤ q := by rw [hAe]; exact aA_ge h0L hEs.1
  subst hR; subst hAe; subst hQ
  have hlocks := hC.lk
  have hl : lv_has ls 4 [(0, .int (6 : Int32)), (1, .int p0), (2, .int p1), (3, .int p2)] := hl
  have ea : ∀ o ∈ L, ad o = ad o := fun _ _ => rfl
  refine lv_iload_n hC.x hC.b dX11_newWalker_0 rfl (lv_at hl 0 rfl) ?_
  refine lv_tableIn (off := 94) (tgt := 95) hC.x hC.b dX11_newWalker_1 (by decide) (by decide) (by decide +kernel) (by decide) ?_
  refine n_new (j := w) (ty := tyX8) hC hG hA f_w s_w (nc2 rfl) rfl inW8 tyX8_ok (fun k hk => by rcases (show k = 0 ∨ k = 1 ∨ k = 2 ∨ k = 3 ∨ k = 4 ∨ k = 5 ∨ k = 6 ∨ k = 7 by omega) with rfl | rfl | rfl | rfl | rfl | rfl | rfl | rfl <;> rfl) kw217 kw218 kw219 (by decide) (by decide) dX11_newWalker_95 (fun ad' H b0 e1 hb hG => ?_)
  have m_w := List.mem_cons_self (a := w) (l := L)
  have f_wp1 : w + 1 ∉ w :: L := fun z => (List.mem_cons.mp z).elim (fun z => by omega) f_wp1
  have f_wp2 : w + 2 ∉ w :: L := fun z => (List.mem_cons.mp z).elim (fun z => by omega) f_wp2
  have f_wp3 : w + 3 ∉ w :: L := fun z => (List.mem_cons.mp z).elim (fun z => by omega) f_wp3
  have ea : ∀ o ∈ L, _ = _ := fun o ho => (e1 o ho).trans (ea o ho)
  have h_w := hb
  refine lv_dup hC.x hC.b dX11_newWalker_98 rfl ?_
  refine lv_iload_n hC.x hC.b dX11_newWalker_99 rfl (lv_at hl 1 rfl) ?_
  refine lv_iload_n hC.x hC.b dX11_newWalker_100 rfl (lv_at hl 2 rfl) ?_
  refine lv_iload_n hC.x hC.b dX11_newWalker_101 rfl (lv_at hl 3 rfl) ?_
  refine n_init (b := b0) (As := [.int p0, .int p1, .int p2]) (rest := [.ref b0]) (mc := 3) (ms := 28) hC hX EZ_bl hG hA (z_W8_6 (p0 := p0) (p1 := p1) (p2 := p2) s_w s_wp1 s_wp2 s_wp3 m_w f_wp1 f_wp2 f_wp3 hG.2.2.1 hG.2.2.2).1 (z_W8_6 (p0 := p0) (p1 := p1) (p2 := p2) s_w s_wp1 s_wp2 s_wp3 m_w f_wp1 f_wp2 f_wp3 hG.2.2.1 hG.2.2.2).2 (by rw [← h_w]; exact n_W8_6 s_w s_wp1 s_wp2 s_wp3 m_w f_wp1 f_wp2 f_wp3 hG.1.1 hG.2.2.1 hG.2.2.2 (fun o ho => hA0 _ (hG.1.2 o ho))) kw249 kw250 kw219 kw251 rfl a_X8_init.1 a_X8_init.2 rfl hl.1 ⟨by decide, by decide, by decide, by decide⟩ (Nat.le_of_ble_eq_true rfl) dX11_newWalker_102 (fun ad' H locs e1 hG => ?_)
  have h_w := (e1 _ m_w).trans h_w
  have ea : ∀ o ∈ L, _ = _ := fun o ho => (e1 o (List.mem_cons_of_mem _ ho)).trans (ea o ho)
  have m_w := List.mem_cons_of_mem (w + 1) m_w
  have m_wp1 := List.mem_cons_self (a := w + 1) (l := w :: L)
  have f_wp2 : w + 2 ∉ (w + 1) :: w :: L := fun z => (List.mem_cons.mp z).elim (fun z => by omega) f_wp2
  have f_wp3 : w + 3 ∉ (w + 1) :: w :: L := fun z => (List.mem_cons.mp z).elim (fun z => by omega) f_wp3
  have m_w := List.mem_cons_of_mem (w + 2) m_w
  have m_wp1 := List.mem_cons_of_mem (w + 2) m_wp1
  have m_wp2 := List.mem_cons_self (a := w + 2) (l := (w + 1) :: w :: L)
  have f_wp3 : w + 3 ∉ (w + 2) :: (w + 1) :: w :: L := fun z => (List.mem_cons.mp z).elim (fun z => by omega) f_wp3
  have m_w := List.mem_cons_of_mem (w + 3) m_w
  have m_wp1 := List.mem_cons_of_mem (w + 3) m_wp1
  have m_wp2 := List.mem_cons_of_mem (w + 3) m_wp2
  have m_wp3 := List.mem_cons_self (a := w + 3) (l := (w + 2) :: (w + 1) :: w :: L)
  generalize hm1 : i_W8_6 w p0 p1 p2 mem = mm1 at hG
  refine W.widen (k := 4) (n := 36) (by decide) (by decide) ?_
  subst hm1
  have hq : ∀ t : State, t.heap = _ → s.WarmedH t.vm → gNw (EZ sz0 adK adV) D cy sh ad L ((w + 3) :: (w + 2) :: (w + 1) :: w :: L) _ (fun z => some (.ref (z w))) s.heap.size args s (.returned (some (.ref b0))) t := fun t ht hW => ⟨⟨ad', ea, (by show _ = Outcome.returned (some (Value.ref (ad' w))); rw [h_w]), by rw [ht]; exact hG.2.1.1, hG.1⟩, hG.2.1.2.F ht⟩
  exact W.aret hC.x hC.b hr (Or.inl ⟨_, rfl⟩) (Or.inr ⟨_, rfl⟩) hq hG.2.1.2.2.2 dX11_newWalker_105

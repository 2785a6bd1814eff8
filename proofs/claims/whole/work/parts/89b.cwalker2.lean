/-! the class's call walker, where one comes -/
theorem kcl_ok {k : Nat} (hk : k < 7) : ∃ r : vw_C, vwCl[kci k]? = some r ∧ (r.1 = "OnTiptoe$Walker" ∨ (r.1, "OnTiptoe$Walker") ∈ gYes) := by
  rcases (show k = 0 ∨ k = 1 ∨ k = 2 ∨ k = 3 ∨ k = 4 ∨ k = 5 ∨ k = 6 by omega) with rfl | rfl | rfl | rfl | rfl | rfl | rfl
  · exact ⟨_, rfl, Or.inl rfl⟩
  all_goals exact ⟨_, rfl, Or.inr (by decide +kernel)⟩
theorem c_Wn {l : Launch} {sz0 : Nat} {adK adV : Nat → Nat} {D : va_G} {cy : Nat → ClassId} {ad : Nat → Nat} {L L' : List Nat} {mem memN : gMem} {w k n fr lo mc ms : Nat} {p1 p2 : Int32} (hk7 : k < 7) (hp1 : ¬ p1 < 0) (hp9 : p1 ≤ 9) (hp2 : f_X11_isBoard p2 = some 1) (hn : gI mem 10 3 = nI n) (hn4 : n < 4) (hs : shX w = (0, kci k, wFs w)) (hw128 : 128 ≤ w) (hk6 : wkd w = k) (hwL : w ∉ L) (hL : ∀ o ∈ LX0, o ∈ L) (hk : gOk ad L) (hz : gZ L mem) (hc : gCl shX L mem) (h0L : ∀ o ∈ L, sz0 ≤ ad o) (hNW : gNew l yX11_newWalker cX11_newWalker 4 (some (.object "OnTiptoe$Walker")) fr lo mc ms (EZ sz0 adK adV) D cy (shW w) (shW w) ad L L' [.int (nI k), .int (nI n), .int p1, .int p2] mem memN (fun z => some (.ref (z w)))) (hzN : gZ L' memN) (hcN : gCl (shW w) L' memN) (hcX : gCl shX L' memN) (hup : ∀ o ∈ L, o ∈ L') (hwL' : w ∈ L') (hR4 : gR memN w 4 = some (w + 1)) (hR6 : k = 6 → gR memN w 6 = some (w + 2) ∧ gR memN w 7 = some (w + 3)) : gNew l yX11_walker cX11_walker 5 (some .int) (fr + 1) (23 + lo) mc ms (EZ sz0 adK adV) D cy shX shX ad L L' [.ref (ad 0), .int (nI k), .int p1, .int p2] mem (gsI (gsR memN 1 n (some w)) 10 3 (nI (n + 1))) (fun _ => some (.int (nI n))) := by
  refine n_start (own := RX11) (by decide +kernel) rfl hk hz hc (fun sz s hs hEs => EZ_XN h0L hs hEs) (Nat.le_of_ble_eq_true rfl) (fun p e s m args below meth c R Q A ha hR hAe hA hQ hEs hC hin hr hX H locs ls hG hl => ?_)
  subst hR; subst hAe; subst hQ
  have hlocks := hC.lk
  have hl : lv_has ls 5 [(0, .ref (ad 0)), (1, .int (nI k)), (2, .int p1), (3, .int p2)] := hl
  have hE := EZ_ok (adK := adK) (adV := adV) h0L
  refine lv_iload_n hC.x hC.b dX11_walker_0 rfl (lv_at hl 1 rfl) ?_
  refine lv_if_lt (tgt := 17) hC.x hC.b dX11_walker_1 (by decide) (fun z => absurd z (nI_pos (by omega))) (fun _ => ?_)
  refine lv_iload_n hC.x hC.b dX11_walker_4 rfl (lv_at hl 1 rfl) ?_
  refine lv_bipush (v := 7) hC.x hC.b dX11_walker_5 rfl ?_
  refine lv_icmp_ge (tgt := 17) hC.x hC.b dX11_walker_7 (by decide) (fun z => absurd z (show ¬ (7 : Int32) ≤ nI k from nI_ge (b := 7) hk7 (by decide))) (fun _ => ?_)
  refine lv_iload_n hC.x hC.b dX11_walker_10 rfl (lv_at hl 3 rfl) ?_
  refine c_S1 (As := [.int p2]) (rest := []) hC hX hE.2.1 hG.1 hG.2.1 (c_X11_isBoard (l := l) hk hL hE hp2) kw156 kw157 kw2 kw158 a_X11_isBoard.1 a_X11_isBoard.2 rfl hl.1 ⟨by show 0 + 1 ≤ fr + 1; omega, by show 8 + (1 + 11) + 0 ≤ 23 + lo; omega, Nat.zero_le _, Nat.zero_le _⟩ (Nat.le_of_ble_eq_true rfl) dX11_walker_11 (fun H locs hH => ?_)
  have hG : gG D cy shX ad L (aA ad L s.heap.size) s.heap mem H locs := ⟨hG.1, hH, hG.2.2⟩
  refine lv_if_ne (tgt := 19) hC.x hC.b dX11_walker_14 (by decide) (fun _ => ?_) (fun z => absurd z (by decide))
  refine lv_iload_n hC.x hC.b dX11_walker_19 rfl (lv_at hl 2 rfl) ?_
  refine lv_if_lt (tgt := 29) hC.x hC.b dX11_walker_20 (by decide) (fun z => absurd z hp1) (fun _ => ?_)
  refine lv_iload_n hC.x hC.b dX11_walker_23 rfl (lv_at hl 2 rfl) ?_
  refine lv_bipush (v := 9) hC.x hC.b dX11_walker_24 rfl ?_
  refine lv_icmp_le (tgt := 32) hC.x hC.b dX11_walker_26 (by decide) (fun _ => ?_) (fun z => absurd hp9 z)
  refine lv_aload_n hC.x hC.b dX11_walker_32 rfl (lv_at hl 0 rfl) ?_
  refine r_getc (z := 10) hC hG.2.1 fl_X11_12_11 (hL _ mX0) sX0 rfl dX11_walker_33 ?_
  refine r_geti hC hG.2.1 fl_X11_82_2 (hL _ mX10) sX10 rfl dX11_walker_36 ?_
  rw [hn]
  refine lv_istore (lv' := [(4, .int (nI n)), (0, .ref (ad 0)), (1, .int (nI k)), (2, .int p1), (3, .int p2)]) hC.x hC.b dX11_walker_39 hl (by decide) rfl (fun ls hl => ?_)
  refine lv_iload hC.x hC.b dX11_walker_41 (lv_at hl 0 rfl) ?_
  refine lv_if_lt (tgt := 52) hC.x hC.b dX11_walker_43 (by decide) (fun z => absurd z (nI_pos (by omega))) (fun _ => ?_)
  refine lv_iload hC.x hC.b dX11_walker_46 (lv_at hl 0 rfl) ?_
  refine lv_iconst (v := 4) hC.x hC.b dX11_walker_48 rfl ?_
  refine lv_icmp_lt (tgt := 55) hC.x hC.b dX11_walker_49 (by decide) (fun _ => ?_) (fun z => absurd (show nI n < (4 : Int32) from by rw [i_lt, nI_toInt (by omega)]; show (n : Int) < 4; omega) z)
  refine lv_aload_n hC.x hC.b dX11_walker_55 rfl (lv_at hl 1 rfl) ?_
  refine r_getc (z := 1) hC hG.2.1 fl_X11_23_11 (hL _ mX0) sX0 rfl dX11_walker_56 ?_
  refine lv_iload hC.x hC.b dX11_walker_59 (lv_at hl 0 rfl) ?_
  refine lv_iload_n hC.x hC.b dX11_walker_61 rfl (lv_at hl 2 rfl) ?_
  refine lv_iload hC.x hC.b dX11_walker_62 (lv_at hl 0 rfl) ?_
  refine lv_iload_n hC.x hC.b dX11_walker_64 rfl (lv_at hl 3 rfl) ?_
  refine lv_iload_n hC.x hC.b dX11_walker_65 rfl (lv_at hl 4 rfl) ?_
  have hne : ∀ o ∈ L, o ≠ w := fun o ho z => hwL (z ▸ ho)
  have hcW : gCl (shW w) L mem := fun o ho => by rw [shW_n (hne o ho)]; exact hc o ho
  have hGW : gG D cy (shW w) ad L (aA ad L s.heap.size) s.heap mem H locs := gG_sh (fun o ho => by rw [shW_n (hne o ho)]) hcW hG
  refine n_stat (As := [.int (nI k), .int (nI n), .int p1, .int p2]) (rest := [.int (nI n), .ref (ad 1)]) hC hX EZ_bl hGW hA hzN hcN hNW kw199 kw200 kw2 kw201 a_X11_newWalker.1 a_X11_newWalker.2 rfl hl.1 ⟨by show fr + 1 ≤ fr + 1; omega, by show 8 + (4 + 11) + lo ≤ 23 + lo; omega, by show 0 + mc ≤ mc; omega, by show 0 + ms ≤ ms; omega⟩ (Nat.le_of_ble_eq_true rfl) dX11_walker_66 (fun ad' H locs e1 hG => ?_)
  have hGX : gG D cy shX ad' L' (aA ad L s.heap.size) s.heap memN H locs := gG_sh (fun o ho => by
    by_cases hw : o = w
    · subst hw
      have e : shW o o = opS0 (shX o) := if_pos rfl
      rw [e]
      refine (cell_op ?_).symm
      intro _ j c hj
      rw [hs] at hj
      change (wFs o)[j]? = some (c + 2) at hj
      unfold wFs at hj
      by_cases h6 : wkd o = 6
      · rw [if_pos h6] at hj
        obtain ⟨q6, q7⟩ := hR6 (hk6 ▸ h6)
        match j with
        | 0 => cases hj
        | 1 => cases hj
        | 2 => cases hj
        | 3 => cases hj
        | 4 => cases hj; exact hR4
        | 5 => cases hj
        | 6 => cases hj; exact q6
        | 7 => cases hj; exact q7
        | j + 8 => cases hj
      · rw [if_neg h6] at hj
        match j with
        | 0 => cases hj
        | 1 => cases hj
        | 2 => cases hj
        | 3 => cases hj
        | 4 => cases hj; exact hR4
        | 5 => cases hj
        | j + 6 => cases hj
    · rw [shW_n hw]) hcX hG
  obtain ⟨r, hr1, hr2⟩ := kcl_ok hk7
  show W p l _ _ s m args below meth c H locs (0 + mc) (0 + ms) _ (F0 m _ ls (.ref (ad' w) :: .int (nI n) :: .ref (ad 1) :: []))
  refine n_aast (t := 1) (o := 1) (j := w) hC hGX (e1 1 (hL _ mX1)) rfl (hup _ (hL _ mX1)) hwL' sX1 hs rfl hr1 (hr2.elim Or.inl (fun z => Or.inr (hEs.2.1.1.2.1 (r.1, "OnTiptoe$Walker") z))) (okN hn4 (by decide)) dX11_walker_69 (fun H locs hG => ?_)
  rw [ixN (by omega)] at hG
  refine lv_aload_n hC.x hC.b dX11_walker_70 rfl (lv_at hl 1 rfl) ?_
  rw [← e1 0 (hL _ mX0)]
  refine r_getc (z := 10) hC hG.2.1 fl_X11_12_11 (hup _ (hL _ mX0)) sX0 rfl dX11_walker_71 ?_
  refine lv_iload hC.x hC.b dX11_walker_74 (lv_at hl 0 rfl) ?_
  refine lv_iconst (v := 1) hC.x hC.b dX11_walker_76 rfl ?_
  refine lv_iadd hC.x hC.b dX11_walker_77 ?_
  rw [nI_1]
  refine r_puti (α := gMem) (K := some) (r := gsI (gsR memN 1 n (some w)) 10 3 (nI (n + 1))) hC hG.1 hG.2.1 pw_X11_82_2 (hup _ (hL _ mX10)) sX10 rfl rfl dX11_walker_78 (fun mem' H locs he hH => ?_)
  cases he
  refine lv_iload hC.x hC.b dX11_walker_81 (lv_at hl 0 rfl) ?_
  refine W.widen (k := mc) (n := ms) (by omega) (by omega) ?_
  have hq : ∀ t : State, t.heap = H → s.WarmedH t.vm → gNw (EZ sz0 adK adV) D cy shX ad L L' (gsI (gsR memN 1 n (some w)) 10 3 (nI (n + 1))) (fun _ => some (.int (nI n))) s.heap.size args s (.returned (some (.int (nI n)))) t := fun t ht hW => ⟨⟨ad', e1, rfl, by rw [ht]; exact hH.1, hG.1⟩, hH.2.F ht⟩
  exact W.iret hC.x hC.b hr hq hH.2.2.2 dX11_walker_83

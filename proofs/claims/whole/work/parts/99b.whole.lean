/-! the law's entry: both are made, then all rounds -/
section LE
variable {p : Program} {l : Launch} {e : Env} {R : Room} {s : State} {m : MethodId} {args : Array Value} {below : List Frame} {meth : Method} {c : Code} {H : Heap} {locs : List Loc} {cells slots : Nat} {Q : State → Prop}
variable {ls : Array Slot} {rest : List Value} {D : va_G} {cy : Nat → ClassId} {adK adV adX adM : Nat → Nat}
/-- the reference's constructor, beside the class -/
theorem L_I (hC : gC p s m args meth c cL_law 4 RL D cy) (hEs : EZ s.heap.size adK adV s) (hX : va_P D vwCl (gW cy shX adX LXF xB) H) (hM0 : va_P D vwCl (gW cy shMK adM [0] gM0) H) (hok : gOk adX LXF) (hokM : gOk adM [0]) (hd : ∀ o ∈ LXF, adX o ≠ adM 0) (hgx : ∀ o ∈ LXF, s.heap.size ≤ adX o) (hgm : ∀ o ∈ [0], s.heap.size ≤ adM o) (hS : va_S (fun q => s.heap.size ≤ q) s.heap H locs) (hls : ls.size = 4)
    (hR : 1 + 1 ≤ R.frames ∧ 8 + (1 + 11) + 12 ≤ R.locals ∧ cells + 39 ≤ R.cells ∧ slots + 2199 ≤ R.slots) (hW : (rest.map fun v => v.category).sum ≤ 8)
    (kk : ∀ (ad' : Nat → Nat) (H1 : Heap) (locs1 : List Loc), ad' 0 = adM 0 → LH D cy s adX LXF xB ad' mB H1 locs1 → W p l e R s m args below meth c H1 locs1 (cells + 39) (slots + 2199) Q (F0 m (12 + 3) ls rest)) : W p l e R s m args below meth c H locs cells slots Q (F0 m 12 ls (([] : List Value).reverse ++ .ref (adM 0) :: rest)) := by
  have hts := hC.ts
  have hXg : gX (fun q => s.heap.size ≤ q) s (EZ s.heap.size adK adV) := EZ_X (fun q h => h) hEs
  have hM := n_X12 (l := l) (adK := adK) (adV := adV) (D := D) (cy := cy) hokM gM0_Z gM0_M hgm
  have hr := va_runI (l := l) (e := e) (locs := locs) (below := below) (meth := meth) (As := []) (rest := rest) (n := 0) (g := F0 m 12 ls (([] : List Value).reverse ++ .ref (adM 0) :: rest)) ⟨hC.x, hC.b, hC.ml, hC.ow, hts⟩ (hM H.size) ⟨⟨rfl, rfl, hR.1, hR.2.1, WS_warm hts kw74, List.mem_cons_self, hts _ kw74, hts _ kw5, a_X12_init.1, arity_s a_X12_init.2, hts _ kw72⟩, rfl, hts _ kw73⟩ ⟨gNp_blind EZ_bl, fun U hU hW => ⟨rfl, by rw [hU], by rw [hU]; exact hM0, va_K.moved hW.alike hC.K, hXg H locs hS U hU hW⟩⟩ rfl rfl hls rfl (lv_room hW) dL_law_12 ⟨hR.2.2.1, hR.2.2.2⟩
  intro T hT X
  obtain ⟨v, st₀, t, T', L1, e0, X', hL, e1, e2, ⟨⟨ad', ha, hv, hp, hF'⟩, hz, hk⟩, st⟩ := hr T hT X
  cases hv
  rw [e0] at hz hk
  have hAA : ∀ q, aA adM [0] H.size q → s.heap.size ≤ q := fun q h => by
    rcases h with ⟨o, ho, hq⟩ | h
    · rw [hq]; exact hgm o ho
    · exact Nat.le_trans hS.1 h
  have hXl : ∀ o ∈ LXF, adX o < H.size := fun o ho => (gP_iff.mp hX o ho).lt
  have hXn : ∀ o ∈ LXF, ¬ aA adM [0] H.size (adX o) := fun o ho z => by
    rcases z with ⟨o2, ho2, h⟩ | h
    · rw [List.mem_singleton.mp ho2] at h
      exact hd o ho h
    · have := hXl o ho; omega
  have hXX : va_P D vwCl (gW cy shX adX LXF xB) T'.heap := hX.kept (fun k z hz => by
    obtain ⟨o, ho, rfl⟩ := gW_of hz
    have ho' := List.mem_of_getElem? ho
    rw [e1]
    exact hk _ (hXl o ho') (hXn o ho'))
  have hpM : va_P D vwCl (gW cy shM ad' LMF mB) T'.heap := by
    rw [wM, e1]
    exact hp
  obtain ⟨t2, a1, b1⟩ := kk ad' T'.heap (locs ++ L1) (ha 0 List.mem_cons_self) ⟨hXX, hpM, hok, hF'.1, fun o ho o' ho' z => hXn o ho (by rw [z]; exact hF'.2 o' ho'), hgx, fun o ho => hAA _ (hF'.2 o ho), Nat.le_trans hS.1 (by rw [e1]; exact hz), fun q h1 h2 => by
      rw [e1, hk q (Nat.lt_of_lt_of_le h1 hS.1) (fun z => h2 (hAA q z))]; exact hS.2.1 q h1 h2, fun q hq => by
      rcases List.mem_append.mp hq with h | h
      · exact hS.2.2 q h
      · exact hAA _ (hL q h)⟩ T' rfl X'
  exact ⟨t2, st t2 a1, b1⟩
end LE
theorem dv_X11 : ∀ k, k < 13 → defaultValue (tyX11 k) = vp_V ((shK 0).2.2.map dvC) k := fun k hk => match k, hk with
  | 0, _ => rfl
  | 1, _ => rfl
  | 2, _ => rfl
  | 3, _ => rfl
  | 4, _ => rfl
  | 5, _ => rfl
  | 6, _ => rfl
  | 7, _ => rfl
  | 8, _ => rfl
  | 9, _ => rfl
  | 10, _ => rfl
  | 11, _ => rfl
  | 12, _ => rfl
  | k + 13, hk => absurd hk (by omega)
theorem dv_X12 : ∀ k, k < 74 → defaultValue (tyX12 k) = vp_V ((shMK 0).2.2.map dvC) k := fun k hk => match k, hk with
  | 0, _ => rfl
  | 1, _ => rfl
  | 2, _ => rfl
  | 3, _ => rfl
  | 4, _ => rfl
  | 5, _ => rfl
  | 6, _ => rfl
  | 7, _ => rfl
  | 8, _ => rfl
  | 9, _ => rfl
  | 10, _ => rfl
  | 11, _ => rfl
  | 12, _ => rfl
  | 13, _ => rfl
  | 14, _ => rfl
  | 15, _ => rfl
  | 16, _ => rfl
  | 17, _ => rfl
  | 18, _ => rfl
  | 19, _ => rfl
  | 20, _ => rfl
  | 21, _ => rfl
  | 22, _ => rfl
  | 23, _ => rfl
  | 24, _ => rfl
  | 25, _ => rfl
  | 26, _ => rfl
  | 27, _ => rfl
  | 28, _ => rfl
  | 29, _ => rfl
  | 30, _ => rfl
  | 31, _ => rfl
  | 32, _ => rfl
  | 33, _ => rfl
  | 34, _ => rfl
  | 35, _ => rfl
  | 36, _ => rfl
  | 37, _ => rfl
  | 38, _ => rfl
  | 39, _ => rfl
  | 40, _ => rfl
  | 41, _ => rfl
  | 42, _ => rfl
  | 43, _ => rfl
  | 44, _ => rfl
  | 45, _ => rfl
  | 46, _ => rfl
  | 47, _ => rfl
  | 48, _ => rfl
  | 49, _ => rfl
  | 50, _ => rfl
  | 51, _ => rfl
  | 52, _ => rfl
  | 53, _ => rfl
  | 54, _ => rfl
  | 55, _ => rfl
  | 56, _ => rfl
  | 57, _ => rfl
  | 58, _ => rfl
  | 59, _ => rfl
  | 60, _ => rfl
  | 61, _ => rfl
  | 62, _ => rfl
  | 63, _ => rfl
  | 64, _ => rfl
  | 65, _ => rfl
  | 66, _ => rfl
  | 67, _ => rfl
  | 68, _ => rfl
  | 69, _ => rfl
  | 70, _ => rfl
  | 71, _ => rfl
  | 72, _ => rfl
  | 73, _ => rfl
  | k + 74, hk => absurd hk (by omega)
theorem whole_start {p : Program} {e : Env} {s : State} {m : MethodId} {below : List Frame} {meth : Method} {c : Code} (l : Launch) (hflags : l.flags = flags0) {b L : Nat} {xs : Nat → Int32} (hL : L ≤ 3072) (C0 : lw_At p s m meth c b L xs) : W p l e room_1 s m #[Value.ref b] below meth c s.heap [] 0 0 (lw_Z below #[Value.ref b] s) (entryFrame m ([Value.ref b] : List Value).toArray 4) := by
  obtain ⟨hx, hb, hret, hml, hown, hts, hXs, hbl, hlk, hgv⟩ := C0
  obtain ⟨D, cy, hK⟩ := st_K hts
  have hC : gC p s m #[Value.ref b] meth c cL_law 4 RL D cy := ⟨hx, hb, hml, hown, fun w h => hts w (WS_in w h), hK, hlk⟩
  obtain ⟨adK, adV, hEs⟩ := st_E hts (flat_of_before _ hgv)
  have hXg : gX (fun q => s.heap.size ≤ q) s (EZ s.heap.size adK adV) := EZ_X (fun q h => h) hEs
  have hl := lv_entry ([.ref b]) (n := 4) (Nat.le_of_ble_eq_true rfl)
  rw [lg_entry_eq]
  generalize (lg_sl ([.ref b]) ++ List.replicate (4 - (lg_sl ([.ref b])).length) Slot.unset).toArray = ls at hl ⊢
  have hl : lv_has ls 4 [(0, .ref b)] := hl
  have hG : gG D cy shK (fun _ => 0) [] (fun q => s.heap.size ≤ q) s.heap gM0 s.heap [] := ⟨⟨⟨List.nodup_nil, fun a h => absurd h List.not_mem_nil⟩, fun o h => absurd h List.not_mem_nil⟩, ⟨gP_iff.mpr (fun o h => absurd h List.not_mem_nil), va_S.rf⟩, fun o _ k => ⟨rfl, rfl, rfl⟩, fun o h => absurd h List.not_mem_nil⟩
  refine n_new (j := 0) (ty := tyX11) hC hG (fun q h => h) List.not_mem_nil (show shK 0 = (0, 11, (shK 0).2.2) from rfl) (nc2 rfl) rfl inW11 tyX11_ok dv_X11 kw0 kw1 kw2 (by decide) (by decide) dL_law_0 (fun ad1 H b0 e1 hb0 hG => ?_)
  refine lv_dup hC.x hC.b dL_law_3 rfl ?_
  refine n_init (L' := LXF) (mem' := xB) (b := b0) (As := []) (rest := [.ref b0]) (mc := 64) (ms := 2060) hC hXg EZ_bl hG (fun q h => h) (z_X11 gM0_Z gM0_X).1 (z_X11 gM0_Z gM0_X).2 (by rw [← hb0]; exact n_X11 hG.1.1 gM0_Z gM0_X (fun o ho => hG.1.2 o ho)) kw7 kw8 kw2 kw9 rfl a_X11_init.1 a_X11_init.2 rfl hl.1 ⟨by decide, by decide, by decide, by decide⟩ (Nat.le_of_ble_eq_true rfl) dL_law_4 (fun adX H locs e2 hG => ?_)
  have eb : b0 = adX 0 := by rw [e2 0 List.mem_cons_self, hb0]
  refine lv_astore_n (lv' := [(1, .ref b0), (0, .ref b)]) hC.x hC.b dL_law_7 rfl hl (by decide) rfl (fun ls hl => ?_)
  have hX2 : va_P D vwCl (gW cy shX adX LXF xB) H := by
    rw [wX]
    exact hG.2.1.1
  have hts2 := hC.ts
  refine va_new (fs := (shMK 0).2.2.map dvC) (ci := 12) (ws := gW cy shX adX LXF xB) (A := fun q => s.heap.size ≤ q) hC.x hC.b hts2 inW12 tyX12 tyX12_ok hC.ow (hts2 _ kw3) (hts2 _ kw4) (hts2 _ kw5) hC.K hX2 (gW_D hG.1.1 hG.1.2) hG.2.1.2 (fun q h => h) rfl dv_X12 (by decide) (by decide) dL_law_8 (fun q H1 hP hD hS => ?_)
  have hlen : (gW cy shX adX LXF xB).length = LXF.length := by simp [gW]
  have hlast : (gW cy shX adX LXF xB ++ [(q, (.inr (12, (shMK 0).2.2.map dvC) : va_E))])[LXF.length]? = some (q, .inr (12, (shMK 0).2.2.map dvC)) := by rw [List.getElem?_append_right (by omega), hlen, Nat.sub_self]; rfl
  have hold : ∀ o ∈ LXF, ∃ k, k < LXF.length ∧ (gW cy shX adX LXF xB ++ [(q, (.inr (12, (shMK 0).2.2.map dvC) : va_E))])[k]? = some (adX o, gCell cy adX xB o (shX o)) := by
    intro o ho
    obtain ⟨k, hk, hw⟩ := gW_at (cy := cy) (sh := shX) (ad := adX) (m := xB) ho
    have hl := (List.getElem?_eq_some_iff.mp hk).1
    exact ⟨k, hl, by rw [List.getElem?_append_left (by omega)]; exact hw⟩
  have hne : ∀ o ∈ LXF, adX o ≠ q := by
    intro o ho hq
    obtain ⟨k, hk, hw⟩ := hold o ho
    have := hD.1 k LXF.length _ _ hw hlast hq
    omega
  have hX3 : va_P D vwCl (gW cy shX adX LXF xB) H1 := gP_iff.mpr (fun o ho => by
    obtain ⟨k, -, hw⟩ := hold o ho
    exact hP k _ hw)
  have hM3 : va_P D vwCl (gW cy shMK (fun _ => q) [0] gM0) H1 := gP_iff.mpr (fun o ho => by
    rw [List.mem_singleton.mp ho]
    have e3 : gCell cy (fun _ => q) gM0 0 (shMK 0) = (.inr (12, (shMK 0).2.2.map dvC) : va_E) := congrArg (fun z => (Sum.inr (12, z) : va_E)) (gFs_0 (fun k => ⟨rfl, rfl, rfl⟩) (nc2 (by decide)))
    rw [e3]
    exact hP _ _ hlast)
  refine lv_dup hC.x hC.b dL_law_11 rfl ?_
  refine L_I (adM := fun _ => q) (rest := [.ref q]) hC hEs hX3 hM3 hG.1.1 ⟨by decide, fun a ha b hb _ => by rw [List.mem_singleton.mp ha, List.mem_singleton.mp hb]⟩ hne hG.1.2 (fun _ _ => hD.2 _ _ hlast) hS hl.1 ⟨by decide, by decide, by decide, by decide⟩ (Nat.le_of_ble_eq_true rfl) (fun adM H2 locs2 h0 hLH => ?_)
  refine lv_astore_n (lv' := [(2, .ref q), (1, .ref b0), (0, .ref b)]) hC.x hC.b dL_law_15 rfl hl (by decide) rfl (fun ls hl => ?_)
  refine lv_iconst (v := nI (6 * 0)) hC.x hC.b dL_law_16 rfl ?_
  refine lv_istore_n (lv' := [(3, .int (nI (6 * 0))), (2, .ref q), (1, .ref b0), (0, .ref b)]) hC.x hC.b dL_law_17 rfl hl (by decide) rfl (fun ls hl => ?_)
  refine W.widen (k := 200 + 4 * 0) (n := 10000 + 40 * 0) (by decide) (by decide) ?_
  exact law_loop hC hret hEs hXs hbl hL 512 0 H2 locs2 ls rfl ⟨adX, LXF, xB, fun _ => 0, fun _ => [], 0, adM, mB, hLH, eb.symm, h0, relB, qrX, scX1, lxf_X0, fun o ho => by have := lxf_B o ho; omega⟩ hl

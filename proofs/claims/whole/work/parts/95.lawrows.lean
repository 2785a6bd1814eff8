/-! the law: both worlds side by side -/
def LH (D : va_G) (cy : Nat → ClassId) (s : State) (adX : Nat → Nat) (LX : List Nat) (x : gMem) (adM : Nat → Nat) (mm : gMem) (H : Heap) (locs : List Loc) : Prop := va_P D vwCl (gW cy shX adX LX x) H ∧ va_P D vwCl (gW cy shM adM LMF mm) H ∧ gOk adX LX ∧ gOk adM LMF ∧ (∀ o ∈ LX, ∀ o' ∈ LMF, adX o ≠ adM o') ∧ (∀ o ∈ LX, s.heap.size ≤ adX o) ∧ (∀ o ∈ LMF, s.heap.size ≤ adM o) ∧ va_S (fun q => s.heap.size ≤ q) s.heap H locs
def LSt (D : va_G) (cy : Nat → ClassId) (s : State) (ax am : Nat) (H : Heap) (locs : List Loc) : Prop := ∃ (adX : Nat → Nat) (LX : List Nat) (x : gMem) (W : Nat → Nat) (N : Nat → List cls) (q : Nat) (adM : Nat → Nat) (mm : gMem), LH D cy s adX LX x adM mm H locs ∧ adX 0 = ax ∧ adM 0 = am ∧ Rel LX W N x mm ∧ QR LX x ∧ SC LX ∧ (∀ o ∈ LX0, o ∈ LX) ∧ ∀ o ∈ LX, o < 128 + 32 * q
section LR
variable {p : Program} {l : Launch} {e : Env} {R : Room} {s : State} {m : MethodId} {args : Array Value} {below : List Frame} {meth : Method} {c : Code} {H : Heap} {locs : List Loc} {cells slots : Nat} {Q : State → Prop}
variable {cc : ByteArray} {nL : Nat} {own : String} {pc : Nat} {ls : Array Slot} {rest : List Value} {D : va_G} {cy : Nat → ClassId} {adX adM : Nat → Nat} {LX : List Nat} {x x' mm mm' : gMem}
theorem LH.gX (h : LH D cy s adX LX x adM mm H locs) : gH D cy shX adX LX (fun q => s.heap.size ≤ q) s.heap x H locs := ⟨h.1, h.2.2.2.2.2.2.2⟩
theorem LH.gM (h : LH D cy s adX LX x adM mm H locs) : gH D cy shM adM LMF (fun q => s.heap.size ≤ q) s.heap mm H locs := ⟨h.2.1, h.2.2.2.2.2.2.2⟩
theorem L_goX {ov : Option Value} {a : Array Value} {st0 : List Value} (hH : LH D cy s adX LX x adM mm H locs)
    (hr : va_Run p l e R s m args below meth c H locs cells slots 0 0 (F0 m pc ls st0) rest (gQ ov (gA adX LX) (gP1 D cy shX adX LX x') a) (gA adX LX))
    (kk : ∀ (H1 : Heap) (locs1 : List Loc), LH D cy s adX LX x' adM mm H1 locs1 → W p l e R s m args below meth c H1 locs1 cells slots Q (F0 m (pc + 3) ls (ov.toList ++ rest))) : W p l e R s m args below meth c H locs cells slots Q (F0 m pc ls st0) := by
  intro T hT X
  obtain ⟨v, st₀, t, T', L1, h0, X', hL, e1, e2, ⟨hv, hp, hz, hk⟩, st⟩ := hr T hT X
  cases hv
  rw [h0] at hz hk
  obtain ⟨h1, h2, h3, h4, h5, h6, h7, h8⟩ := hH
  have hAA : ∀ q, gA adX LX q → s.heap.size ≤ q := fun q ⟨o, ho, hq⟩ => by rw [hq]; exact h6 o ho
  have hM : va_P D vwCl (gW cy shM adM LMF mm) T'.heap := h2.kept (fun k z hz => by
    obtain ⟨o, ho, rfl⟩ := gW_of hz
    have ho' := List.mem_of_getElem? ho
    rw [e1]
    exact hk _ ((gP_iff.mp h2 o ho').lt) (fun ⟨o2, ho2, h⟩ => h5 o2 ho2 o ho' h.symm))
  obtain ⟨t2, a1, b1⟩ := kk T'.heap (locs ++ L1) ⟨by rw [e1]; exact hp, hM, h3, h4, h5, h6, h7, Nat.le_trans h8.1 (by rw [e1]; exact hz), fun q h1 h2 => by
      rw [e1, hk q (Nat.lt_of_lt_of_le h1 h8.1) (fun z => h2 (hAA q z))]; exact h8.2.1 q h1 h2, fun q hq => by
      rcases List.mem_append.mp hq with h | h
      · exact h8.2.2 q h
      · exact hAA _ (hL q h)⟩ T' rfl X'
  exact ⟨t2, st t2 a1, b1⟩
theorem L_goM {ov : Option Value} {a : Array Value} {st0 : List Value} (hH : LH D cy s adX LX x adM mm H locs)
    (hr : va_Run p l e R s m args below meth c H locs cells slots 0 0 (F0 m pc ls st0) rest (gQ ov (gA adM LMF) (gP1 D cy shM adM LMF mm') a) (gA adM LMF))
    (kk : ∀ (H1 : Heap) (locs1 : List Loc), LH D cy s adX LX x adM mm' H1 locs1 → W p l e R s m args below meth c H1 locs1 cells slots Q (F0 m (pc + 3) ls (ov.toList ++ rest))) : W p l e R s m args below meth c H locs cells slots Q (F0 m pc ls st0) := by
  intro T hT X
  obtain ⟨v, st₀, t, T', L1, h0, X', hL, e1, e2, ⟨hv, hp, hz, hk⟩, st⟩ := hr T hT X
  cases hv
  rw [h0] at hz hk
  obtain ⟨h1, h2, h3, h4, h5, h6, h7, h8⟩ := hH
  have hAA : ∀ q, gA adM LMF q → s.heap.size ≤ q := fun q ⟨o, ho, hq⟩ => by rw [hq]; exact h7 o ho
  have hX : va_P D vwCl (gW cy shX adX LX x) T'.heap := h1.kept (fun k z hz => by
    obtain ⟨o, ho, rfl⟩ := gW_of hz
    have ho' := List.mem_of_getElem? ho
    rw [e1]
    exact hk _ ((gP_iff.mp h1 o ho').lt) (fun ⟨o2, ho2, h⟩ => h5 o ho' o2 ho2 h))
  obtain ⟨t2, a1, b1⟩ := kk T'.heap (locs ++ L1) ⟨hX, by rw [e1]; exact hp, h3, h4, h5, h6, h7, Nat.le_trans h8.1 (by rw [e1]; exact hz), fun q h1 h2 => by
      rw [e1, hk q (Nat.lt_of_lt_of_le h1 h8.1) (fun z => h2 (hAA q z))]; exact h8.2.1 q h1 h2, fun q hq => by
      rcases List.mem_append.mp hq with h | h
      · exact h8.2.2 q h
      · exact hAA _ (hL q h)⟩ T' rfl X'
  exact ⟨t2, st t2 a1, b1⟩
variable {E : State → Prop} {y : MethodName} {bytes : ByteArray} {maxL fr lo index : Nat} {ret : Option FieldType} {As : List Value} {n : Nat} {v : Value}
/-- a call of the class -/
theorem L_X {ax : Nat} {q : vw_C} (hC : gC p s m args meth c cc nL own D cy) (hX : gX (fun q => s.heap.size ≤ q) s E) (hB : eBl E) (hH : LH D cy s adX LX x adM mm H locs) (hax : adX 0 = ax) (h0 : 0 ∈ LX) (hM : gMet l y bytes maxL ret fr lo E D cy shX adX LX (.ref (adX 0) :: As) x x' (some v))
    (k1 : Cond.methodLink own index y ∈ WS) (k2 : Cond.instanceMethod y ∈ WS) (k3 : Cond.selects q.1 y y ∈ WS) (k4 : Cond.initialized y.cls ∈ WS) (k5 : Cond.code y bytes maxL ret ∈ WS) (hn1 : noMH y.cls) (hn2 : arity y.desc n) (hc : vwCl[11]? = some q) (hn : As.length = n) (hls : ls.size = nL)
    (hR : fr + 1 ≤ R.frames ∧ 8 + (maxL + 11) + lo ≤ R.locals ∧ cells ≤ R.cells ∧ slots ≤ R.slots) (hW : (rest.map fun v => v.category).sum ≤ 8) (hdg : decode cc pc = .ok (.invokevirtual index, 3))
    (kk : ∀ (H1 : Heap) (locs1 : List Loc), LH D cy s adX LX x' adM mm H1 locs1 → W p l e R s m args below meth c H1 locs1 cells slots Q (F0 m (pc + 3) ls (v :: rest))) : W p l e R s m args below meth c H locs cells slots Q (F0 m pc ls (As.reverse ++ .ref ax :: rest)) := by
  subst hax
  have hts := hC.ts
  exact L_goX hH (va_runV (C := q.1) (As := As) (rest := rest) (n := n) ⟨hC.x, hC.b, hC.ml, hC.ow, hts⟩ hM ⟨⟨rfl, rfl, hR.1, hR.2.1, WS_warm hts k5, List.mem_cons_self, hts _ k5, hts _ k4, hn1, arity_s hn2, hts _ k1⟩, hts _ k2, hts _ k3⟩ ⟨gPc_blind hB, c_recv hC hH.gX h0 sX0 hc, c_pre hC hH.gX hX⟩ rfl hn hls rfl (lv_room hW) hdg ⟨hR.2.2.1, hR.2.2.2⟩) kk
/-- a call of the reference -/
theorem L_M {am : Nat} {q : vw_C} (hC : gC p s m args meth c cc nL own D cy) (hX : gX (fun q => s.heap.size ≤ q) s E) (hB : eBl E) (hH : LH D cy s adX LX x adM mm H locs) (ham : adM 0 = am) (hM : gMet l y bytes maxL ret fr lo E D cy shM adM LMF (.ref (adM 0) :: As) mm mm' (some v))
    (k1 : Cond.methodLink own index y ∈ WS) (k2 : Cond.instanceMethod y ∈ WS) (k3 : Cond.selects q.1 y y ∈ WS) (k4 : Cond.initialized y.cls ∈ WS) (k5 : Cond.code y bytes maxL ret ∈ WS) (hn1 : noMH y.cls) (hn2 : arity y.desc n) (hc : vwCl[12]? = some q) (hn : As.length = n) (hls : ls.size = nL)
    (hR : fr + 1 ≤ R.frames ∧ 8 + (maxL + 11) + lo ≤ R.locals ∧ cells ≤ R.cells ∧ slots ≤ R.slots) (hW : (rest.map fun v => v.category).sum ≤ 8) (hdg : decode cc pc = .ok (.invokevirtual index, 3))
    (kk : ∀ (H1 : Heap) (locs1 : List Loc), LH D cy s adX LX x adM mm' H1 locs1 → W p l e R s m args below meth c H1 locs1 cells slots Q (F0 m (pc + 3) ls (v :: rest))) : W p l e R s m args below meth c H locs cells slots Q (F0 m pc ls (As.reverse ++ .ref am :: rest)) := by
  subst ham
  have hts := hC.ts
  exact L_goM hH (va_runV (C := q.1) (As := As) (rest := rest) (n := n) ⟨hC.x, hC.b, hC.ml, hC.ow, hts⟩ hM ⟨⟨rfl, rfl, hR.1, hR.2.1, WS_warm hts k5, List.mem_cons_self, hts _ k5, hts _ k4, hn1, arity_s hn2, hts _ k1⟩, hts _ k2, hts _ k3⟩ ⟨gPc_blind hB, c_recv hC hH.gM (by decide) sM0 hc, c_pre hC hH.gM hX⟩ rfl hn hls rfl (lv_room hW) hdg ⟨hR.2.2.1, hR.2.2.2⟩) kk
/-- a call of the class that makes cells -/
theorem L_N {ax mc ms : Nat} {L' : List Nat} {rv : (Nat → Nat) → Option Value} {q : vw_C} (hC : gC p s m args meth c cc nL own D cy) (hX : gX (fun q => s.heap.size ≤ q) s E) (hB : eBl E) (hH : LH D cy s adX LX x adM mm H locs) (hax : adX 0 = ax) (h0 : 0 ∈ LX) (hM : gNew l y bytes maxL ret fr lo mc ms E D cy shX shX adX LX L' (.ref (adX 0) :: As) x x' rv)
    (k1 : Cond.methodLink own index y ∈ WS) (k2 : Cond.instanceMethod y ∈ WS) (k3 : Cond.selects q.1 y y ∈ WS) (k4 : Cond.initialized y.cls ∈ WS) (k5 : Cond.code y bytes maxL ret ∈ WS) (hn1 : noMH y.cls) (hn2 : arity y.desc n) (hc : vwCl[11]? = some q) (hn : As.length = n) (hls : ls.size = nL)
    (hR : fr + 1 ≤ R.frames ∧ 8 + (maxL + 11) + lo ≤ R.locals ∧ cells + mc ≤ R.cells ∧ slots + ms ≤ R.slots) (hW : (rest.map fun v => v.category).sum ≤ 8) (hdg : decode cc pc = .ok (.invokevirtual index, 3))
    (kk : ∀ (ad' : Nat → Nat) (H1 : Heap) (locs1 : List Loc), (∀ o ∈ LX, ad' o = adX o) → LH D cy s ad' L' x' adM mm H1 locs1 → W p l e R s m args below meth c H1 locs1 (cells + mc) (slots + ms) Q (F0 m (pc + 3) ls ((rv ad').toList ++ rest))) : W p l e R s m args below meth c H locs cells slots Q (F0 m pc ls (As.reverse ++ .ref ax :: rest)) := by
  subst hax
  have hts := hC.ts
  have hr := va_runV (l := l) (e := e) (locs := locs) (below := below) (meth := meth) (C := q.1) (As := As) (rest := rest) (n := n) (g := F0 m pc ls (As.reverse ++ .ref (adX 0) :: rest)) ⟨hC.x, hC.b, hC.ml, hC.ow, hts⟩ (hM H.size) ⟨⟨rfl, rfl, hR.1, hR.2.1, WS_warm hts k5, List.mem_cons_self, hts _ k5, hts _ k4, hn1, arity_s hn2, hts _ k1⟩, hts _ k2, hts _ k3⟩ ⟨gNp_blind hB, c_recv hC hH.gX h0 sX0 hc, fun U hU hW => ⟨rfl, by rw [hU], by rw [hU]; exact hH.1, va_K.moved hW.alike hC.K, hX H locs hH.2.2.2.2.2.2.2 U hU hW⟩⟩ rfl hn hls rfl (lv_room hW) hdg ⟨hR.2.2.1, hR.2.2.2⟩
  intro T hT X
  obtain ⟨v, st₀, t, T', L1, e0, X', hL, e1, e2, ⟨⟨ad', ha, hv, hp, hF'⟩, hz, hk⟩, st⟩ := hr T hT X
  cases hv
  rw [e0] at hz hk
  obtain ⟨h1, h2, h3, h4, h5, h6, h7, h8⟩ := hH
  have hAA : ∀ q, aA adX LX H.size q → s.heap.size ≤ q := fun q h => by
    rcases h with ⟨o, ho, hq⟩ | h
    · rw [hq]; exact h6 o ho
    · exact Nat.le_trans h8.1 h
  have hMl : ∀ o ∈ LMF, adM o < H.size := fun o ho => (gP_iff.mp h2 o ho).lt
  have hMn : ∀ o ∈ LMF, ¬ aA adX LX H.size (adM o) := fun o ho z => by
    rcases z with ⟨o2, ho2, h⟩ | h
    · exact h5 o2 ho2 o ho h.symm
    · have := hMl o ho; omega
  have hMM : va_P D vwCl (gW cy shM adM LMF mm) T'.heap := h2.kept (fun k z hz => by
    obtain ⟨o, ho, rfl⟩ := gW_of hz
    have ho' := List.mem_of_getElem? ho
    rw [e1]
    exact hk _ (hMl o ho') (hMn o ho'))
  obtain ⟨t2, a1, b1⟩ := kk ad' T'.heap (locs ++ L1) ha ⟨by rw [e1]; exact hp, hMM, hF'.1, h4, fun o ho o' ho' z => hMn o' ho' (by rw [← z]; exact hF'.2 o ho), fun o ho => hAA _ (hF'.2 o ho), h7, Nat.le_trans h8.1 (by rw [e1]; exact hz), fun q h1 h2 => by
      rw [e1, hk q (Nat.lt_of_lt_of_le h1 h8.1) (fun z => h2 (hAA q z))]; exact h8.2.1 q h1 h2, fun q hq => by
      rcases List.mem_append.mp hq with h | h
      · exact h8.2.2 q h
      · exact hAA _ (hL q h)⟩ T' rfl X'
  exact ⟨t2, st t2 a1, b1⟩
/-- a value of the script -/
theorem L_s {b len : Nat} {xs : Nat → Int32} {i : Nat} (hC : gC p s m args meth c cc nL own D cy) (hX : va_X b len xs s s.heap) (hbl : b < s.heap.size) (hS : va_S (fun q => s.heap.size ≤ q) s.heap H locs) (hi : i < len) (hlen : len ≤ 3072) (hdg : decode cc pc = .ok (.iaload, 1))
    (kk : W p l e R s m args below meth c H locs cells slots Q (F0 m (pc + 1) ls (.int (xs i) :: rest))) : W p l e R s m args below meth c H locs cells slots Q (F0 m pc ls (.int (nI i) :: .ref b :: rest)) := by
  refine va_sld hC.x hC.b hX hbl (Nat.not_le.mpr hbl) hS (okI_in (okN hi (by omega))) hdg ?_
  rw [show (nI i).toNatClampNeg = i from ixN (by omega)]
  exact kk
end LR

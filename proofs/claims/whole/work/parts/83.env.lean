/-! what holds of the tables and of the String constants, all along -/
def EZ (sz0 : Nat) (adK adV : Nat → Nat) : State → Prop := fun U => sz0 ≤ U.heap.size ∧ EN U ∧ gS (fun q => sz0 ≤ q) adK adV U
section EV
variable {sz0 : Nat} {adK adV : Nat → Nat} {A : Nat → Prop} {s : State} {ad : Nat → Nat} {L : List Nat}
theorem gS_narrow {A B : Nat → Prop} {U : State} (h : gS A adK adV U) (hAB : ∀ q, B q → A q) : gS B adK adV U := by
  refine ⟨h.1.narrow hAB, h.2.1, ?_, ?_⟩
  · obtain ⟨cf, kf, fi, f, a, cell, h1, h2, h3, h4, h5, h6, h7, h8⟩ := h.2.2.1
    exact ⟨cf, kf, fi, f, a, cell, h1, h2, h3, h4, h5, h6, h7, fun z => h8 (hAB _ z)⟩
  · rcases h.2.2.2 with ⟨cf, kf, fi, f, a, cell, h1, h2, h3, h4, h5, h6, h7, h8⟩ | ⟨t, cf, kf, fi, f, a, cell, h1, h2, h3, h4, h5, h6, h7, h8⟩
    · exact Or.inl ⟨cf, kf, fi, f, a, cell, h1, h2, h3, h4, h5, h6, h7, fun z => h8 (hAB _ z)⟩
    · exact Or.inr ⟨t, cf, kf, fi, f, a, cell, h1, h2, h3, h4, h5, h6, h7, fun z => h8 (hAB _ z)⟩
theorem EZ_X (hA : ∀ q, A q → sz0 ≤ q) (h : EZ sz0 adK adV s) : gX A s (EZ sz0 adK adV) := by
  intro H locs hS U hU hW
  have hS' : va_S (fun q => sz0 ≤ q) s.heap H [] := ⟨hS.1, fun q h1 h2 => hS.2.1 q h1 (fun z => h2 (hA q z)), fun _ z => by cases z⟩
  refine ⟨?_, EN_warm hW h.2.1, gS_X h.2.2 H [] hS' U hU hW⟩
  have := hS.1
  have := h.1
  rw [hU]
  omega
theorem EZ_bl : eBl (EZ sz0 adK adV) := fun a U g mk h => ⟨h.1, EN_bl a U g mk h.2.1, gS_bl a U g mk h.2.2⟩
theorem EZ_ok (hL : ∀ o ∈ L, sz0 ≤ ad o) : gEok ad L (EZ sz0 adK adV) := ⟨fun s h => EZ_X (fun q ⟨o, ho, hq⟩ => by rw [hq]; exact hL o ho) h, EZ_bl, fun s h => h.2.1.1⟩
theorem EZ_S (hL : ∀ o ∈ L, sz0 ≤ ad o) (h : EZ sz0 adK adV s) : gS (gA ad L) adK adV s := gS_narrow h.2.2 (fun q ⟨o, ho, hq⟩ => by rw [hq]; exact hL o ho)
theorem EZ_XN {sz : Nat} (hL : ∀ o ∈ L, sz0 ≤ ad o) (hs : s.heap.size = sz) (h : EZ sz0 adK adV s) : gX (aA ad L sz) s (EZ sz0 adK adV) := EZ_X (fun q hq => by
  rcases hq with ⟨o, ho, hq⟩ | hq
  · rw [hq]; exact hL o ho
  · have := h.1; omega) h
theorem aA_ge {sz : Nat} (hL : ∀ o ∈ L, sz0 ≤ ad o) (hs : sz0 ≤ sz) : ∀ q, aA ad L sz q → sz0 ≤ q := fun q hq => by
  rcases hq with ⟨o, ho, hq⟩ | hq
  · rw [hq]; exact hL o ho
  · omega
end EV
section NG
variable {p : Program} {l : Launch} {e : Env} {R : Room} {s : State} {m : MethodId} {args : Array Value} {below : List Frame} {meth : Method} {c : Code} {H : Heap} {locs : List Loc} {cells slots : Nat} {Q : State → Prop}
variable {cc : ByteArray} {nL : Nat} {own : String} {pc : Nat} {ls : Array Slot} {rest : List Value} {D : va_G} {cy : Nat → ClassId} {sh : Nat → gShp} {ad : Nat → Nat} {L : List Nat} {A : Nat → Prop} {mem : gMem}
theorem n_getr {index ci k o a v b : Nat} {fs : List Nat} (hC : gC p s m args meth c cc nL own D cy) (hG : gG D cy sh ad L A s.heap mem H locs) (hf : gFl own index ci k) (ha : ad o = a) (hb : ad v = b) (ho : o ∈ L) (hs : sh o = (0, ci, fs)) (hk : fs[k]? = some 1) (he : gR mem o k = some v) (hdg : decode cc pc = .ok (.getfield index, 3))
    (kk : W p l e R s m args below meth c H locs cells slots Q (F0 m (pc + 3) ls (.ref b :: rest))) : W p l e R s m args below meth c H locs cells slots Q (F0 m pc ls (.ref a :: rest)) := by
  subst ha; subst hb
  exact r_getrS hC hG.2.1 hf ho hs hk he hdg kk
/-- a new object -/
theorem n_new {j ci N index : Nat} {C : String} {T : u_T} {ty : Nat → FieldType} {fs : List Nat} (hC : gC p s m args meth c cc nL own D cy) (hG : gG D cy sh ad L A s.heap mem H locs) (hA : ∀ q, s.heap.size ≤ q → A q) (hj : j ∉ L) (hs : sh j = (0, ci, fs)) (hfs : ∀ c : Nat, c + 2 ∉ fs)
    (hc : vwCl[ci]? = some (C, T, N)) (hin : ∀ w ∈ u_ws C T N, w ∈ WS) (hty : ∀ k, k < N → parseFieldDescriptor (T k).2.2.1 = some (ty k)) (hd : ∀ k, k < N → defaultValue (ty k) = vp_V (fs.map dvC) k) (k1 : Cond.classLink own index C ∈ WS) (k2 : Cond.instantiable C N ∈ WS) (k3 : Cond.initialized C ∈ WS) (hcells : cells + 1 ≤ R.cells) (hslots : slots + N ≤ R.slots) (hdg : decode cc pc = .ok (.new index, 3))
    (kk : ∀ (ad' : Nat → Nat) (H1 : Heap) (b : Nat), (∀ o ∈ L, ad' o = ad o) → ad' j = b → gG D cy sh ad' (j :: L) A s.heap mem H1 locs → W p l e R s m args below meth c H1 locs (cells + 1) (slots + N) Q (F0 m (pc + 3) ls (.ref b :: rest))) : W p l e R s m args below meth c H locs cells slots Q (F0 m pc ls rest) :=
  a_new hC hG hA hj hs hfs hc hin hty hd k1 k2 k3 hcells hslots hdg (fun ad' H1 h1 h2 => kk ad' H1 _ h1 rfl h2)
end NG
/-- shapes while they are made: no reference is settled yet -/
def opF (f : Nat) : Nat := if f = 0 then 0 else 1
def opS0 (p : gShp) : gShp := (p.1, p.2.1, p.2.2.map opF)

/-! the tapes' rows: seven cells at once; what is left to say of numbers and shapes -/
theorem nc2 {fs : List Nat} (h : fs.all (fun c => c < 2) = true) : ∀ c : Nat, c + 2 ∉ fs := fun c hc => by
  have := List.all_eq_true.mp h _ hc
  have := of_decide_eq_true this
  omega
theorem gCl_up {sh : Nat → gShp} {L : List Nat} {mem : gMem} {j : Nat} (h : gCl sh L mem) (hz : gZ L mem) (hj : j ∉ L) (hs : (sh j).2.2.all (fun c => c < 2) = true) : gCl sh (j :: L) mem := by
  intro o ho
  rcases List.mem_cons.mp ho with e1 | ho
  · subst e1
    exact ⟨fun k b hb => (by rw [(hz o hj k).2.2] at hb; cases hb), fun c hc => absurd hc (nc2 hs c)⟩
  · exact ⟨fun k b hb => List.mem_cons_of_mem _ ((h o ho).1 k b hb), fun c hc => List.mem_cons_of_mem _ ((h o ho).2 c hc)⟩
def mTap (mem : gMem) : gMem := (mem.1, (mem.2.1, fun o k => if o = 5 ∧ k < 6 then some (50 + k) else mem.2.2 o k))
theorem mTap_R {mem : gMem} {o k : Nat} (h : o ≠ 5) : gR (mTap mem) o k = gR mem o k := if_neg (fun z => h z.1)
def LT6 (L : List Nat) : List Nat := 5 :: 50 :: 51 :: 52 :: 53 :: 54 :: 55 :: L
theorem mTap_Z {L : List Nat} {mem : gMem} (h : gZ L mem) : gZ (LT6 L) (mTap mem) := by
  intro o ho k
  have h5 : o ≠ 5 := fun z => ho (z ▸ List.mem_cons_self)
  have hL : o ∉ L := fun z => ho (List.mem_cons_of_mem _ (List.mem_cons_of_mem _ (List.mem_cons_of_mem _ (List.mem_cons_of_mem _ (List.mem_cons_of_mem _ (List.mem_cons_of_mem _ (List.mem_cons_of_mem _ z)))))))
  exact ⟨(h o hL k).1, (h o hL k).2.1, (mTap_R h5).trans (h o hL k).2.2⟩
theorem LT6_m {L : List Nat} {o : Nat} : o ∈ LT6 L ↔ o = 5 ∨ (50 ≤ o ∧ o ≤ 55) ∨ o ∈ L := by
  simp only [LT6, List.mem_cons]
  constructor
  · rintro (h | h | h | h | h | h | h | h)
    · exact Or.inl h
    · exact Or.inr (Or.inl (by omega))
    · exact Or.inr (Or.inl (by omega))
    · exact Or.inr (Or.inl (by omega))
    · exact Or.inr (Or.inl (by omega))
    · exact Or.inr (Or.inl (by omega))
    · exact Or.inr (Or.inl (by omega))
    · exact Or.inr (Or.inr h)
  · rintro (h | h | h)
    · exact Or.inl h
    · have : o = 50 ∨ o = 51 ∨ o = 52 ∨ o = 53 ∨ o = 54 ∨ o = 55 := by omega
      rcases this with h | h | h | h | h | h
      · exact Or.inr (Or.inl h)
      · exact Or.inr (Or.inr (Or.inl h))
      · exact Or.inr (Or.inr (Or.inr (Or.inl h)))
      · exact Or.inr (Or.inr (Or.inr (Or.inr (Or.inl h))))
      · exact Or.inr (Or.inr (Or.inr (Or.inr (Or.inr (Or.inl h)))))
      · exact Or.inr (Or.inr (Or.inr (Or.inr (Or.inr (Or.inr (Or.inl h))))))
    · exact Or.inr (Or.inr (Or.inr (Or.inr (Or.inr (Or.inr (Or.inr h))))))
theorem mTap_Cl {sh : Nat → gShp} {L : List Nat} {mem : gMem} (h : gCl sh L mem) (hz : gZ L mem) (hs : ∀ o, o = 5 ∨ (50 ≤ o ∧ o ≤ 55) → o ∉ L ∧ (sh o).2.2 = []) : gCl sh (LT6 L) (mTap mem) := by
  intro o ho
  have up : ∀ b, b ∈ L → b ∈ LT6 L := fun b hb => LT6_m.mpr (Or.inr (Or.inr hb))
  by_cases h5 : o = 5
  · subst h5
    refine ⟨fun k b hb => ?_, fun c hc => by rw [(hs 5 (Or.inl rfl)).2] at hc; cases hc⟩
    change (if 5 = 5 ∧ k < 6 then some (50 + k) else gR mem 5 k) = some b at hb
    by_cases hk : k < 6
    · rw [if_pos ⟨rfl, hk⟩] at hb
      cases hb
      exact LT6_m.mpr (Or.inr (Or.inl (by omega)))
    · rw [if_neg (fun z => hk z.2), (hz 5 (hs 5 (Or.inl rfl)).1 k).2.2] at hb
      cases hb
  · rcases LT6_m.mp ho with z | z | z
    · exact absurd z h5
    · have hn := hs o (Or.inr z)
      refine ⟨fun k b hb => ?_, fun c hc => by rw [hn.2] at hc; cases hc⟩
      rw [mTap_R h5, (hz o hn.1 k).2.2] at hb
      cases hb
    · exact ⟨fun k b hb => up b ((h o z).1 k b (by rw [mTap_R h5] at hb; exact hb)), fun c hc => up c ((h o z).2 c hc)⟩
theorem outer_arr (c : ClassId) (N h0 : Nat) : ∀ i, Jvm.Free.Multi.outerC c N h0 i = arrV c N (fun k => if k < i then .ref (h0 + 1 + k) else .null)
  | 0 => by
    show ({ cls := c, slots := Array.replicate N .null, vm := .none } : Cell) = _
    rw [arrV_new]
    rfl
  | i + 1 => by
    show (Jvm.Free.Multi.outerC c N h0 i).setSlot i (.ref (h0 + 1 + i)) = _
    rw [outer_arr c N h0 i, arrV_store]
    congr 1
    funext k
    unfold updV
    by_cases hk : k = i
    · rw [if_pos hk, if_pos (by omega), hk]
    · rw [if_neg hk]
      dsimp only
      by_cases h2 : k < i
      · rw [if_pos h2, if_pos (by omega)]
      · rw [if_neg h2, if_neg (by omega)]
theorem arr_eq {c : ClassId} {N : Nat} {f g : Nat → Value} (h : ∀ k, k < N → f k = g k) : arrV c N f = arrV c N g := by
  unfold arrV
  have e : (Array.ofFn (n := N) fun j => f j.val) = Array.ofFn (n := N) fun j => g j.val := by
    congr 1
    funext j
    exact h j.val j.isLt
  rw [e]
section NM
variable {p : Program} {l : Launch} {e : Env} {R : Room} {s : State} {m : MethodId} {args : Array Value} {below : List Frame} {meth : Method} {c : Code} {H : Heap} {locs : List Loc} {cells slots : Nat} {Q : State → Prop}
variable {cc : ByteArray} {nL : Nat} {own : String} {pc : Nat} {ls : Array Slot} {rest : List Value} {D : va_G} {cy : Nat → ClassId} {sh : Nat → gShp} {ad : Nat → Nat} {L : List Nat} {A : Nat → Prop} {mem : gMem}
theorem n_mul {index : Nat} {n k : Int32} (hC : gC p s m args meth c cc nL own D cy) (hG : gG D cy sh ad L A s.heap mem H locs) (hA : ∀ q, s.heap.size ≤ q → A q) (hs : ∀ o, o = 5 ∨ (50 ≤ o ∧ o ≤ 55) → o ∉ L ∧ (sh o).2.2 = []) (h5 : sh 5 = (7, 6, [])) (hT : ∀ o, 50 ≤ o → o ≤ 55 → sh o = (4, 60, [])) (k1 : Cond.classLink own index "[[J" ∈ WS) (hov : oA s) (k2 : Cond.arrayClass .long ∈ WS) (hn : n = nI 6) (hk : k = nI 60) (hcells : cells + 7 ≤ R.cells) (hslots : slots + 366 ≤ R.slots) (hdg : decode cc pc = .ok (.multianewarray index 2, 4))
    (kk : ∀ (ad' : Nat → Nat) (H1 : Heap) (b : Nat), (∀ o ∈ L, ad' o = ad o) → ad' 5 = b → gG D cy sh ad' (LT6 L) A s.heap (mTap mem) H1 locs → W p l e R s m args below meth c H1 locs (cells + 7) (slots + 366) Q (F0 m (pc + 4) ls (.ref b :: rest))) : W p l e R s m args below meth c H locs cells slots Q (F0 m pc ls (.int k :: .int n :: rest)) := by
  subst hn; subst hk
  intro T hT0 X
  have c6 : (nI 6).toNatClampNeg = 6 := rfl
  have c60 : (nI 60).toNatClampNeg = 60 := rfl
  obtain ⟨vm₁, cA, comp, hW, hfA, hfC, hO, hI, X1, step⟩ := X.multianewarray2F hC.x (own := own) (index := index) (ty := .long) hC.ow (hC.ts _ k1) hov (hC.ts _ k2) (g := F0 m pc ls (.int (nI 60) :: .int (nI 6) :: rest)) rfl (by rw [hC.b]; exact hdg) (n := nI 6) (k := nI 60) (rest := rest) rfl (by decide) (by decide) (by rw [c6]; decide) (by rw [c60]; decide) (by rw [c60]; decide) rfl rfl (by rw [c6]; omega) (by rw [c6, c60]; omega)
  rw [c6, c60] at X1 step
  have e6 : cA = cy 6 := Option.some.inj (hfA.symm.trans (hC.K.2 6 _ rfl).2)
  have e3 : comp = cy 3 := Option.some.inj (hfC.symm.trans (hC.K.2 3 _ rfl).2)
  subst e6; subst e3
  have hh : (T.setVm vm₁).heap = H := hT0
  obtain ⟨f1, f2, f3, f4⟩ := Jvm.Free.Multi.fill_facts (T.setVm vm₁) (cy 6) (cy 3) 6 60 (defaultValue .long) 6
  have fo : ∀ a : Addr, a < H.size → (Jvm.Free.Multi.fill (T.setVm vm₁) (cy 6) (cy 3) 6 60 (defaultValue .long) 6).heap[a]? = H[a]? := fun a ha => by
    rw [Jvm.Free.Multi.fill_old (T.setVm vm₁) (cy 6) (cy 3) 6 60 _ (by rw [hh]; exact ha), hh]
  have fi := Jvm.Free.Multi.fill_inner (T.setVm vm₁) (cy 6) (cy 3) 6 60 (defaultValue .long) 6
  rw [hh] at f1 f2 fi
  obtain ⟨hF, hH, hZ, hCl⟩ := hG
  have hlt : ∀ o ∈ L, ad o < H.size := fun o ho => (gP_iff.mp hH.1 o ho).lt
  have n5 := (hs 5 (Or.inl rfl)).1
  have hAd : ∃ ad' : Nat → Nat, (∀ o, ad' o = if o = 5 then H.size else if 50 ≤ o ∧ o ≤ 55 then H.size + 1 + (o - 50) else ad o) := ⟨_, fun _ => rfl⟩
  obtain ⟨ad', had⟩ := hAd
  have a5 : ad' 5 = H.size := by rw [had, if_pos rfl]
  have a50 : ∀ o, 50 ≤ o → o ≤ 55 → ad' o = H.size + 1 + (o - 50) := fun o h1 h2 => by rw [had, if_neg (by omega), if_pos ⟨h1, h2⟩]
  have aL : ∀ o ∈ L, ad' o = ad o := fun o ho => by
    rw [had, if_neg (show ¬ o = 5 from fun z => n5 (z ▸ ho)), if_neg (show ¬ (50 ≤ o ∧ o ≤ 55) from fun z => (hs o (Or.inr z)).1 ho)]
  have hsz : s.heap.size ≤ H.size := hH.2.1
  have key : gG D cy sh ad' (LT6 L) A s.heap (mTap mem) (Jvm.Free.Multi.fill (T.setVm vm₁) (cy 6) (cy 3) 6 60 (defaultValue .long) 6).heap locs := by
    refine ⟨⟨⟨?_, ?_⟩, ?_⟩, ⟨?_, ?_, ?_, hH.2.2.2⟩, mTap_Z hZ, mTap_Cl hCl hZ hs⟩
    · have hn : ∀ o, 50 ≤ o → o ≤ 55 → o ∉ L := fun o h1 h2 => (hs o (Or.inr ⟨h1, h2⟩)).1
      have g50 := hn 50 (by decide) (by decide)
      have g51 := hn 51 (by decide) (by decide)
      have g52 := hn 52 (by decide) (by decide)
      have g53 := hn 53 (by decide) (by decide)
      have g54 := hn 54 (by decide) (by decide)
      have g55 := hn 55 (by decide) (by decide)
      unfold LT6
      simp only [List.nodup_cons, List.mem_cons, n5, g50, g51, g52, g53, g54, g55, hF.1.1]
      decide
    · intro a ha b hb hab
      rcases LT6_m.mp ha with ha | ha | ha <;> rcases LT6_m.mp hb with hb | hb | hb
      · rw [ha, hb]
      · rw [ha, a5, a50 b hb.1 hb.2] at hab; omega
      · rw [ha, a5, aL b hb] at hab; have := hlt b hb; omega
      · rw [hb, a5, a50 a ha.1 ha.2] at hab; omega
      · rw [a50 a ha.1 ha.2, a50 b hb.1 hb.2] at hab; omega
      · rw [a50 a ha.1 ha.2, aL b hb] at hab; have := hlt b hb; omega
      · rw [hb, a5, aL a ha] at hab; have := hlt a ha; omega
      · rw [aL a ha, a50 b hb.1 hb.2] at hab; have := hlt a ha; omega
      · rw [aL a ha, aL b hb] at hab; exact hF.1.2 a ha b hb hab
    · intro o ho
      rcases LT6_m.mp ho with h | h | h
      · rw [h, a5]; exact hA _ hsz
      · rw [a50 o h.1 h.2]; exact hA _ (by omega)
      · rw [aL o h]; exact hF.2 o h
    · rw [gP_iff]
      intro o ho
      rcases LT6_m.mp ho with h | h | h
      · subst h
        rw [h5, a5]
        show _ = some (vp_cell (cy 6) (6, _))
        refine f2.trans ?_
        rw [outer_arr, vp_cell_q]
        refine congrArg some (arr_eq (fun k hk => ?_))
        rw [if_pos hk, show gR (mTap mem) 5 k = some (50 + k) from if_pos ⟨rfl, hk⟩]
        show Value.ref (H.size + 1 + k) = Value.ref (ad' (50 + k))
        rw [a50 (50 + k) (by omega) (by omega), show 50 + k - 50 = k by omega]
      · rw [hT o h.1 h.2, a50 o h.1 h.2]
        show _ = some (vp_cell (cy 3) (60, .inr (.inl (gJ (mTap mem) o))))
        refine (fi (o - 50) (by omega)).trans ?_
        have hz := hZ o (hs o (Or.inr h)).1
        rw [show gJ (mTap mem) o = fun _ => 0 from funext fun k => (hz k).2.1]
        show some ({ cls := cy 3, slots := Array.replicate 60 (defaultValue .long), vm := .none } : Cell) = _
        rw [arrV_new]
        rfl
      · have h5' : o ≠ 5 := fun z => n5 (z ▸ h)
        have e0 : gCell cy ad' (mTap mem) o (sh o) = gCell cy ad mem o (sh o) := by
          have e1 : gCell cy ad' (mTap mem) o (sh o) = gCell cy ad' mem o (sh o) := by
            have er : ∀ j, gR (mTap mem) o j = gR mem o j := fun j => mTap_R h5'
            obtain ⟨t, n, fs⟩ := sh o
            match t with
            | 0 =>
              have e2 : ∀ j cd, gVal ad' (mTap mem) o j cd = gVal ad' mem o j cd := by
                intro j cd
                match cd with
                | 0 => rfl
                | 1 => simp only [gVal, er]
                | cd + 2 => rfl
              simp only [gCell, gFs, e2]
            | 1 => rfl
            | 2 => rfl
            | 3 => rfl
            | 4 => rfl
            | t + 5 => simp only [gCell, er]
          rw [e1]
          exact gCell_ad (fun k b hb => aL b ((hCl o h).1 k b hb)) (fun cd hc => aL cd ((hCl o h).2 cd hc))
        rw [e0, aL o h]
        exact (gP_iff.mp hH.1 o h).kept (fo _ (hlt o h))
    · rw [f1]; omega
    · intro q h1 h2
      rw [fo q (Nat.lt_of_lt_of_le h1 hsz)]
      exact hH.2.2.1 q h1 h2
  obtain ⟨t, a1, b1⟩ := kk ad' _ H.size aL a5 key _ rfl X1
  refine ⟨t, step t ?_, b1⟩
  rw [hT0]
  exact a1
end NM

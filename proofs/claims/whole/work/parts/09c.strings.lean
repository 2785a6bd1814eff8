/-! the String constants -/
def lenJ : List Nat := [5, 6, 5, 6, 3]
def bytJ : List (List Int32) := [[100, 101, 101, 112, 32], [99, 114, 101, 97, 107, 32], [104, 117, 115, 104, 32], [109, 120, 121, 99, 107, 116], [60, 61, 62]]
def strJ : List (Nat × String) := [(52, "deep "), (58, "creak "), (60, "hush "), (96, "mxyckt"), (102, "<=>")]
def gS (A : Nat → Prop) (adK adV : Nat → Nat) (U : State) : Prop := vk_S 5 lenJ bytJ adK adV A U U.heap ∧ (∀ i : Nat, i < 5 → vk_R RX4 (strJ.getD i (0, "")).1 (strJ.getD i (0, "")).2 (adK i) U) ∧ va_Z "java/lang/String" "COMPACT_STRINGS" "Z" (.int 1) A U U.heap ∧ va_Zq "jdk/internal/util/Preconditions" "SIOOBE_FORMATTER" "Ljava/util/function/BiFunction;" A U U.heap
theorem gS_X {A : Nat → Prop} {adK adV : Nat → Nat} {s : State} (h : gS A adK adV s) : gX A s (gS A adK adV) := by
  intro H locs hS U hU hW
  refine ⟨?_, fun i hi => (h.2.1 i hi).warm hW, ?_, ?_⟩
  · rw [hU]; exact (h.1.kept hS.2.1).moved hW.alike
  · rw [hU]; exact va_Z.moved hW.alike (va_Z.kept h.2.2.1 hS.2.1)
  · rw [hU]; exact va_Zq.moved hW.alike (va_Zq.kept h.2.2.2 hS.2.1)
theorem gS_bl {A : Nat → Prop} {adK adV : Nat → Nat} : eBl (gS A adK adV) := by
  intro a U g mk h
  have e : (U.calling g mk a).vm = U.vm := rfl
  have eh : (U.calling g mk a).heap = U.heap := rfl
  refine ⟨?_, fun i hi => vk_R.same e (h.2.1 i hi), ?_, ?_⟩
  · rw [eh]; exact h.1.moved (Vm.Alike.refl U.vm)
  · rw [eh]; exact va_Z.moved (u := U) (Vm.Alike.refl U.vm) h.2.2.1
  · rw [eh]; exact va_Zq.moved (u := U) (Vm.Alike.refl U.vm) h.2.2.2
theorem isC_n {x : Int32} (h : (x.toUInt32 % 65536).toInt32 = x) : narrow .char (.int x) = .int x := by rw [← h]; exact pk_nc x
theorem lenJ_lt : ∀ i : Nat, i < 5 → lenJ.getD i 0 < 100 := by decide
section GS
variable {p : Program} {l : Launch} {e : Env} {R : Room} {s : State} {m : MethodId} {args : Array Value} {below : List Frame} {meth : Method} {c : Code} {H : Heap} {locs : List Loc} {cells slots : Nat} {Q : State → Prop}
variable {cc : ByteArray} {nL : Nat} {own : String} {pc : Nat} {ls : Array Slot} {rest : List Value} {D : va_G} {cy : Nat → ClassId} {sh : Nat → gShp} {ad : Nat → Nat} {L : List Nat} {A : Nat → Prop} {mem : gMem} {adK adV : Nat → Nat} {i : Nat}
theorem s_ldc (hC : gC p s m args meth c cc nL RX4 D cy) (hS : gS A adK adV s) (hi : i < 5) {index : Nat} (hx : (strJ.getD i (0, "")).1 = index) (hdg : decode cc pc = .ok (.ldc index, 2))
    (kk : W p l e R s m args below meth c H locs cells slots Q (F0 m (pc + 2) ls (.ref (adK i) :: rest))) : W p l e R s m args below meth c H locs cells slots Q (F0 m pc ls rest) := by
  subst hx
  exact va_ldcS hC.x hC.b hC.ow (hS.2.1 i hi) hdg kk
theorem s_val {index : Nat} (hC : gC p s m args meth c cc nL own D cy) (hS : gS A adK adV s) (hH : gH D cy sh ad L A s.heap mem H locs) (hi : i < 5) (k1 : Cond.fieldLink own index "java/lang/String" "value" "[B" ∈ WS) (hdg : decode cc pc = .ok (.getfield index, 3))
    (kk : W p l e R s m args below meth c H locs cells slots Q (F0 m (pc + 3) ls (.ref (adV i) :: rest))) : W p l e R s m args below meth c H locs cells slots Q (F0 m pc ls (.ref (adK i) :: rest)) :=
  vk_getf hC.x hC.b (hS.1.1 i hi).2.2.1 hH.S hC.ow (hC.ts _ k1) (fun _ h => h) hdg kk
theorem s_cod {index : Nat} (hC : gC p s m args meth c cc nL own D cy) (hS : gS A adK adV s) (hH : gH D cy sh ad L A s.heap mem H locs) (hi : i < 5) (k1 : Cond.fieldLink own index "java/lang/String" "coder" "B" ∈ WS) (hdg : decode cc pc = .ok (.getfield index, 3))
    (kk : W p l e R s m args below meth c H locs cells slots Q (F0 m (pc + 3) ls (.int 0 :: rest))) : W p l e R s m args below meth c H locs cells slots Q (F0 m pc ls (.ref (adK i) :: rest)) :=
  vk_getf hC.x hC.b (hS.1.1 i hi).2.1 hH.S hC.ow (hC.ts _ k1) (fun _ h => h) hdg kk
theorem s_alen (hC : gC p s m args meth c cc nL own D cy) (hS : gS A adK adV s) (hH : gH D cy sh ad L A s.heap mem H locs) (hi : i < 5) (hdg : decode cc pc = .ok (.arraylength, 1))
    (kk : W p l e R s m args below meth c H locs cells slots Q (F0 m (pc + 1) ls (.int (nI (lenJ.getD i 0)) :: rest))) : W p l e R s m args below meth c H locs cells slots Q (F0 m pc ls (.ref (adV i) :: rest)) :=
  va_tlen hC.x hC.b (hS.1.1 i hi).2.2.2 hH.S rfl hdg kk
theorem s_bld {x : Int32} {α : Type} {X : Option α} {r : α} (hC : gC p s m args meth c cc nL own D cy) (hS : gS A adK adV s) (hH : gH D cy sh ad L A s.heap mem H locs) (hi : i < 5) (h : (if okI x (lenJ.getD i 0) then X else none) = some r) (hdg : decode cc pc = .ok (.baload, 1))
    (kk : X = some r → W p l e R s m args below meth c H locs cells slots Q (F0 m (pc + 1) ls (.int ((bytJ.getD i []).getD (ix x) 0) :: rest))) : W p l e R s m args below meth c H locs cells slots Q (F0 m pc ls (.int x :: .ref (adV i) :: rest)) :=
  va_tb hC.x hC.b (hS.1.1 i hi).2.2.2 hH.S (okI_in (chk h).1) rfl hdg (kk (chk h).2)
theorem s_cmp {index : Nat} (hC : gC p s m args meth c cc nL own D cy) (hS : gS A adK adV s) (hH : gH D cy sh ad L A s.heap mem H locs) (k1 : Cond.fieldLink own index "java/lang/String" "COMPACT_STRINGS" "Z" ∈ WS) (hdg : decode cc pc = .ok (.getstatic index, 3))
    (kk : W p l e R s m args below meth c H locs cells slots Q (F0 m (pc + 3) ls (.int 1 :: rest))) : W p l e R s m args below meth c H locs cells slots Q (F0 m pc ls rest) :=
  va_gets hC.x hC.b hS.2.2.1 hH.S hC.ow (hC.ts _ k1) (fun _ h => h) hdg kk
theorem s_sio {index : Nat} (hC : gC p s m args meth c cc nL own D cy) (hS : gS A adK adV s) (hH : gH D cy sh ad L A s.heap mem H locs) (k1 : Cond.fieldLink own index "jdk/internal/util/Preconditions" "SIOOBE_FORMATTER" "Ljava/util/function/BiFunction;" ∈ WS) (hdg : decode cc pc = .ok (.getstatic index, 3))
    (kk : ∀ z : Option Nat, W p l e R s m args below meth c H locs cells slots Q (F0 m (pc + 3) ls (va_rf z :: rest))) : W p l e R s m args below meth c H locs cells slots Q (F0 m pc ls rest) := by
  rcases hS.2.2.2 with hz | ⟨t, hz⟩
  · exact va_gets hC.x hC.b hz hH.S hC.ow (hC.ts _ k1) (fun _ h => h) hdg (kk none)
  · exact va_gets hC.x hC.b hz hH.S hC.ow (hC.ts _ k1) (fun _ h => h) hdg (kk (some t))
variable {E : State → Prop} {y : MethodName} {bytes : ByteArray} {maxL fr lo index : Nat} {ret : Option FieldType} {As : List Value} {mem' : gMem} {v : Value} {n : Nat}
/-- a method of a String constant -/
theorem c_VR1 (hC : gC p s m args meth c cc nL own D cy) (hX : gX A s E) (hB : eBl E) (hF : gF ad L A) (hS : gS A adK adV s) (hi : i < 5) (hH : gH D cy sh ad L A s.heap mem H locs) (hM : gMet l y bytes maxL ret fr lo E D cy sh ad L (.ref (adK i) :: As) mem mem' (some v))
    (k1 : Cond.methodLink own index y ∈ WS) (k2 : Cond.instanceMethod y ∈ WS) (k3 : Cond.selects "java/lang/String" y y ∈ WS) (k4 : Cond.initialized y.cls ∈ WS) (k5 : Cond.code y bytes maxL ret ∈ WS) (hn1 : noMH y.cls) (hn2 : arity y.desc n) (hn : As.length = n) (hls : ls.size = nL)
    (hR : fr + 1 ≤ R.frames ∧ 8 + (maxL + 11) + lo ≤ R.locals ∧ cells ≤ R.cells ∧ slots ≤ R.slots) (hW : (rest.map fun v => v.category).sum ≤ 8) (hdg : decode cc pc = .ok (.invokevirtual index, 3))
    (kk : ∀ (H1 : Heap) (locs1 : List Loc), gH D cy sh ad L A s.heap mem' H1 locs1 → W p l e R s m args below meth c H1 locs1 cells slots Q (F0 m (pc + 3) ls (v :: rest))) : W p l e R s m args below meth c H locs cells slots Q (F0 m pc ls (As.reverse ++ .ref (adK i) :: rest)) := by
  have hts := hC.ts
  exact c_go hF hH (va_runV (C := "java/lang/String") (As := As) (rest := rest) (n := n) ⟨hC.x, hC.b, hC.ml, hC.ow, hts⟩ hM ⟨⟨rfl, rfl, hR.1, hR.2.1, WS_warm hts k5, List.mem_cons_self, hts _ k5, hts _ k4, hn1, arity_s hn2, hts _ k1⟩, hts _ k2, hts _ k3⟩ ⟨gPc_blind hB, vk_recv hS.1 hi hH.S, c_pre hC hH hX⟩ rfl hn hls rfl (lv_room hW) hdg ⟨hR.2.2.1, hR.2.2.2⟩) kk
end GS

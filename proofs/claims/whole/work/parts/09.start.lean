/-! a method's start, with names for its room and its end; references that may be null; casts of WALKERS -/
theorem g_go {l : Launch} {y : MethodName} {cc : ByteArray} {nL : Nat} {ret : Option FieldType} {fr lo : Nat} {E : State → Prop} {D : va_G} {cy : Nat → ClassId} {sh : Nat → gShp} {ad : Nat → Nat} {L : List Nat} {av : List Value} {mem mem' : gMem} {ov : Option Value} {own : String} (hpl : plainFor y = true) (ho : y.cls = own) (hE : gEok ad L E) (hlen : (lg_sl av).length ≤ nL)
    (body : ∀ (p : Program) (e : Env) (s : State) (m : MethodId) (args : Array Value) (below : List Frame) (meth : Method) (c : Code) (R : Room) (Q : State → Prop), args = av.toArray → R = gRm fr lo → Q = MQ below (gQ ov (gA ad L) (gP1 D cy sh ad L mem')) args s 0 0 (gA ad L) → E s → gC p s m args meth c cc nL own D cy → meth.sig.returnType = ret → gX (gA ad L) s E → ∀ (H : Heap) (locs : List Loc) (ls : Array Slot), gH D cy sh ad L (gA ad L) s.heap mem H locs → lv_has ls nL (lv_args 0 av) →
      W p l e R s m args below meth c H locs 0 0 Q (F0 m 0 ls [])) : gMet l y cc nL ret fr lo E D cy sh ad L av mem mem' ov := by
  refine va_MetF (cc := cc) (maxL := nL) (ret := ret) hpl rfl ?_
  intro p e s m args below meth c s₁ B hml hv
  obtain ⟨rfl, hP, hK, hEs⟩ := hv
  have hts0 := atoms_spec (ws := Cond.code y cc nL ret :: WS) B.pre
  rw [lg_entry_eq]
  exact body p e s m _ below meth c _ _ rfl rfl rfl hEs ⟨B.exec, B.bytes, hml, by rw [← ho]; exact findClass_of_methodNamed B.named, fun w h => hts0 w (List.mem_cons_of_mem _ h), hK, B.notSynchronized⟩ B.returns (hE.1 s hEs) s.heap [] _ ⟨hP, va_S.rf⟩ (lv_entry av hlen)
theorem rmk {R : Room} {fr lo fr0 lo0 mL : Nat} (hR : R = gRm fr0 lo0) (h1 : fr + 1 ≤ fr0) (h2 : 8 + (mL + 11) + lo ≤ lo0) : fr + 1 ≤ R.frames ∧ 8 + (mL + 11) + lo ≤ R.locals ∧ 0 ≤ R.cells ∧ 0 ≤ R.slots := by
  subst hR
  exact ⟨h1, h2, Nat.zero_le _, Nat.zero_le _⟩
theorem rf_cat (x : Option Nat) : (va_rf x).category = 1 := by cases x <;> rfl
theorem gCell_cp {cy : Nat → ClassId} {ad : Nat → Nat} {m : gMem} {a b n o : Nat} {sp : gShp} (h : o ≠ b) : gCell cy ad (gcp m a b n) o sp = gCell cy ad m o sp := by
  have e1 : gI (gcp m a b n) o = gI m o := by funext j; simp [gI_cp, h]
  have e2 : ∀ j c, gVal ad (gcp m a b n) o j c = gVal ad m o j c := by
    intro j c
    match c with
    | 0 => simp [gVal, e1]
    | 1 => simp [gVal, gR_cp]
    | c + 2 => rfl
  obtain ⟨t, n, fs⟩ := sp
  match t with
  | 0 => simp [gCell, gFs, e2]
  | 1 => simp [gCell, e1]
  | 2 => simp [gCell, e1]
  | 3 => simp [gCell, e1]
  | 4 => rfl
  | t + 5 => rfl
theorem rmC {R : Room} {fr0 lo0 n : Nat} (hR : R = gRm fr0 lo0) (h1 : 1 ≤ fr0) (h2 : n + (nativeFrameWords "java/lang/System" "arraycopy" 5 + 11) ≤ lo0) : 1 ≤ R.frames ∧ n + (nativeFrameWords "java/lang/System" "arraycopy" 5 + 11) ≤ R.locals := by
  subst hR
  exact ⟨h1, h2⟩
section GO
variable {p : Program} {l : Launch} {e : Env} {R : Room} {s : State} {m : MethodId} {args : Array Value} {below : List Frame} {meth : Method} {c : Code} {H : Heap} {locs : List Loc} {cells slots : Nat} {Q : State → Prop}
variable {cc : ByteArray} {nL : Nat} {own : String} {pc : Nat} {ls : Array Slot} {rest : List Value} {D : va_G} {cy : Nat → ClassId} {sh : Nat → gShp} {ad : Nat → Nat} {L : List Nat} {A : Nat → Prop} {mem : gMem}
theorem o_aldn {x : Option Nat} {k : Fin 4} {i : Nat} (hC : gC p s m args meth c cc nL own D cy) (hdg : decode cc pc = .ok (.aload_n k, 1)) (hi : (k : Nat) = i) (hl : ls[i]? = some (.val (va_rf x)))
    (kk : W p l e R s m args below meth c H locs cells slots Q (F0 m (pc + 1) ls (va_rf x :: rest))) : W p l e R s m args below meth c H locs cells slots Q (F0 m pc ls rest) := by
  cases x with
  | none => exact lv_aload_nN hC.x hC.b hdg hi hl kk
  | some y => exact lv_aload_n hC.x hC.b hdg hi hl kk
theorem o_ald {x : Option Nat} {i : Nat} (hC : gC p s m args meth c cc nL own D cy) (hdg : decode cc pc = .ok (.aload i, 2)) (hl : ls[i]? = some (.val (va_rf x)))
    (kk : W p l e R s m args below meth c H locs cells slots Q (F0 m (pc + 2) ls (va_rf x :: rest))) : W p l e R s m args below meth c H locs cells slots Q (F0 m pc ls rest) := by
  cases x with
  | none => exact lv_aloadN hC.x hC.b hdg hl kk
  | some y => exact lv_aload hC.x hC.b hdg hl kk
theorem o_astn {x : Option Nat} {k : Fin 4} {i nL : Nat} {lv lv' : List (Nat × Value)} (hC : gC p s m args meth c cc nL own D cy) (hdg : decode cc pc = .ok (.astore_n k, 1)) (hi : (k : Nat) = i) (h : lv_has ls nL lv) (hn : i < nL) (hl : (i, va_rf x) :: lv.filter (fun q => !(q.1 == i) && !(q.1 + 1 == i && q.2.category == 2)) = lv')
    (kk : ∀ ls' : Array Slot, lv_has ls' nL lv' → W p l e R s m args below meth c H locs cells slots Q (F0 m (pc + 1) ls' rest)) : W p l e R s m args below meth c H locs cells slots Q (F0 m pc ls (va_rf x :: rest)) := by
  cases x with
  | none => exact lv_astore_nN hC.x hC.b hdg hi h hn hl kk
  | some y => exact lv_astore_n hC.x hC.b hdg hi h hn hl kk
theorem o_ast {x : Option Nat} {i nL : Nat} {lv lv' : List (Nat × Value)} (hC : gC p s m args meth c cc nL own D cy) (hdg : decode cc pc = .ok (.astore i, 2)) (h : lv_has ls nL lv) (hn : i < nL) (hl : (i, va_rf x) :: lv.filter (fun q => !(q.1 == i) && !(q.1 + 1 == i && q.2.category == 2)) = lv')
    (kk : ∀ ls' : Array Slot, lv_has ls' nL lv' → W p l e R s m args below meth c H locs cells slots Q (F0 m (pc + 2) ls' rest)) : W p l e R s m args below meth c H locs cells slots Q (F0 m pc ls (va_rf x :: rest)) := by
  cases x with
  | none => exact lv_astoreN hC.x hC.b hdg h hn hl kk
  | some y => exact lv_astore hC.x hC.b hdg h hn hl kk
theorem i_inc {i nL k : Nat} {n : Int} {x z : Int32} {lv : List (Nat × Value)} {lv' : Int32 → List (Nat × Value)} {α : Type} {K : Int32 → Option α} {r : α} (hC : gC p s m args meth c cc nL own D cy) (hdg : decode cc pc = .ok (.iinc i n, 3)) (h : lv_has ls nL lv) (hk : lv[k]? = some (i, .int x)) (hn : i < nL) (hl : ∀ v : Int32, (i, Value.int v) :: lv.filter (fun q => !(q.1 == i) && !(q.1 + 1 == i && q.2.category == 2)) = lv' v) (hz : Int32.ofInt n = z) (h0 : lt1 (x + z) K = some r)
    (kk : ∀ (v : Int32) (ls' : Array Slot), K v = some r → lv_has ls' nL (lv' v) → W p l e R s m args below meth c H locs cells slots Q (F0 m (pc + 3) ls' rest)) : W p l e R s m args below meth c H locs cells slots Q (F0 m pc ls rest) :=
  lv_iinc (v := x + z) hC.x hC.b hdg h hk (by rw [hz]) hn (hl (x + z)) (fun ls' h' => kk (x + z) ls' h0 h')
/-- a reference that isn't null, or nothing is printed -/
theorem d_top {x : Option Nat} {α : Type} {Y : Nat → Option α} {r : α} (h : oc x none Y = some r) (kk : ∀ y : Nat, x = some y → Y y = some r → W p l e R s m args below meth c H locs cells slots Q (F0 m pc ls (.ref (ad y) :: rest))) : W p l e R s m args below meth c H locs cells slots Q (F0 m pc ls (va_rf (x.map ad) :: rest)) := by
  cases x with
  | none => cases h
  | some y => exact kk y rfl h
theorem m_max {x y : Int32} {index : Nat} (hC : gC p s m args meth c cc nL own D cy) (hls : ls.size = nL) (k1 : Cond.methodLink own index Lib.Math.max.name ∈ WS) (k2 : Cond.static Lib.Math.max.name ∈ WS) (k3 : Cond.initialized "java/lang/Math" ∈ WS) (k4 : Cond.code Lib.Math.max.name Lib.Math.max.code 2 (some .int) ∈ WS) (hR : 1 ≤ R.frames ∧ (rest.map fun v => v.category).sum + 13 ≤ R.locals ∧ cells ≤ R.cells ∧ slots ≤ R.slots) (hdg : decode cc pc = .ok (.invokestatic index, 3))
    (kk : W p l e R s m args below meth c H locs cells slots Q (F0 m (pc + 3) ls (.int (if x < y then y else x) :: rest))) : W p l e R s m args below meth c H locs cells slots Q (F0 m pc ls (.int y :: .int x :: rest)) :=
  va_mmax hC.x hC.b (hC.ml.trans hls.symm) hC.ow (hC.ts _ k1) (hC.ts _ k2) (hC.ts _ k3) (hC.ts _ k4) hR.1 hR.2.1 hR.2.2.1 hR.2.2.2 hdg kk
theorem m_min {x y : Int32} {index : Nat} (hC : gC p s m args meth c cc nL own D cy) (hls : ls.size = nL) (k1 : Cond.methodLink own index Lib.Math.min.name ∈ WS) (k2 : Cond.static Lib.Math.min.name ∈ WS) (k3 : Cond.initialized "java/lang/Math" ∈ WS) (k4 : Cond.code Lib.Math.min.name Lib.Math.min.code 2 (some .int) ∈ WS) (hR : 1 ≤ R.frames ∧ (rest.map fun v => v.category).sum + 13 ≤ R.locals ∧ cells ≤ R.cells ∧ slots ≤ R.slots) (hdg : decode cc pc = .ok (.invokestatic index, 3))
    (kk : W p l e R s m args below meth c H locs cells slots Q (F0 m (pc + 3) ls (.int (if y < x then y else x) :: rest))) : W p l e R s m args below meth c H locs cells slots Q (F0 m pc ls (.int y :: .int x :: rest)) :=
  va_mmin hC.x hC.b (hC.ml.trans hls.symm) hC.ow (hC.ts _ k1) (hC.ts _ k2) (hC.ts _ k3) (hC.ts _ k4) hR.1 hR.2.1 hR.2.2.1 hR.2.2.2 hdg kk
theorem rmM {R : Room} {fr0 lo0 n : Nat} (hR : R = gRm fr0 lo0) (h1 : 1 ≤ fr0) (h2 : n + 13 ≤ lo0) : 1 ≤ R.frames ∧ n + 13 ≤ R.locals ∧ 0 ≤ R.cells ∧ 0 ≤ R.slots := by
  subst hR
  exact ⟨h1, h2, Nat.zero_le _, Nat.zero_le _⟩
/-- System.arraycopy of one whole int array into another one -/
theorem r_copy {a b n n0 n1 : Nat} {f0 f1 : List Nat} {index : Nat} {z : Int32} {α : Type} {K : gMem → Option α} {r : α} (hC : gC p s m args meth c cc nL own D cy) (hF : gF ad L A) (hH : gH D cy sh ad L A s.heap mem H locs) (hls : ls.size = nL) (k1 : Cond.methodLink own index arraycopyName ∈ WS) (k2 : Cond.native arraycopyName ∈ WS) (k3 : Cond.static arraycopyName ∈ WS) (k4 : Cond.initialized "java/lang/System" ∈ WS)
    (ha : a ∈ L) (hb : b ∈ L) (hsa : sh a = (1, n0, f0)) (hsb : sh b = (1, n1, f1)) (hz : z = Int32.ofNat n) (hn : n < 2 ^ 31) (hn0 : n ≤ n0) (hn1 : n ≤ n1) (hR : 1 ≤ R.frames ∧ (rest.map fun v => v.category).sum + (nativeFrameWords "java/lang/System" "arraycopy" 5 + 11) ≤ R.locals) (h : lt1 (gcp mem a b n) K = some r) (hdg : decode cc pc = .ok (.invokestatic index, 3))
    (kk : ∀ (mem' : gMem) (H1 : Heap) (locs1 : List Loc), K mem' = some r → gH D cy sh ad L A s.heap mem' H1 locs1 → W p l e R s m args below meth c H1 locs1 cells slots Q (F0 m (pc + 3) ls rest)) : W p l e R s m args below meth c H locs cells slots Q (F0 m pc ls (.int z :: .int 0 :: .ref (ad b) :: .int 0 :: .ref (ad a) :: rest)) := by
  obtain ⟨qa, hqa, hwa⟩ := gW_at (cy := cy) (sh := sh) (ad := ad) (m := mem) ha
  obtain ⟨qb, hqb, hwb⟩ := gW_at (cy := cy) (sh := sh) (ad := ad) (m := mem) hb
  have hwa2 : (gW cy sh ad L mem)[qa]? = some (ad a, .inl (cy 0, n0, .inl (gI mem a))) := by rw [hwa, hsa]; rfl
  have hwb2 : (gW cy sh ad L mem)[qb]? = some (ad b, .inl (cy 0, n1, .inl (gI mem b))) := by rw [hwb, hsb]; rfl
  have hzn : z.toNatClampNeg = n := by rw [hz]; exact nI_clamp hn
  have hz0 : ¬ z < 0 := by rw [hz]; exact nI_pos hn
  have h00 : (0 : Int32).toNatClampNeg = 0 := rfl
  refine va_copyi (sp := 0) (dp := 0) hC.x hC.b (hC.ml.trans hls.symm) hC.ow (hC.ts _ k1) (hC.ts _ k2) (hC.ts _ k3) (hC.ts _ k4) hC.K hH.P (gW_D hF.1 hF.2) hH.S qa qb 0 0 hwa2 hwb2 rfl rfl rfl (by decide) (by decide) hz0 (by rw [hzn, h00]; omega) (by rw [hzn, h00]; omega) (fun _ _ => rfl) hR.1 hR.2 hdg (fun H1 l1 hP hD hS => kk (gcp mem a b n) H1 l1 h ⟨?_, hS⟩)
  have e1 : va_cpy (gI mem a) (gI mem b) (0 : Int32).toNatClampNeg (0 : Int32).toNatClampNeg z.toNatClampNeg = gI (gcp mem a b n) b := by
    funext k
    rw [hzn, h00]
    simp [va_cpy, gI_cp]
  rw [e1, gW_set (m' := gcp mem a b n) hF.1.1 hqb (by rw [hsb]; rfl) (fun _ hx => gCell_cp hx)] at hP
  exact hP
/-- what a WALKER is an instance of: T, if its kind is among K -/
abbrev instOk (T : String) (K : List Nat) : Prop := ∀ k, k < 7 → ∃ (C : String) (Tt : u_T) (N : Nat), vwCl[kci k]? = some (C, Tt, N) ∧ ((k ∈ K ∧ (C = T ∨ (C, T) ∈ gYes)) ∨ (k ∉ K ∧ (C, T) ∈ gNo))
theorem r_inst {w index : Nat} {T : String} {K : List Nat} (hI : instOk T K) (hC : gC p s m args meth c cc nL own D cy) (hH : gH D cy shX ad L A s.heap mem H locs) (hw : wok L w) (hN : gN gYes gNo s) (k1 : Cond.classLink own index T ∈ WS) (hdg : decode cc pc = .ok (.instanceof index, 3))
    (kk : W p l e R s m args below meth c H locs cells slots Q (F0 m (pc + 3) ls (.int (if wkd w ∈ K then 1 else 0) :: rest))) : W p l e R s m args below meth c H locs cells slots Q (F0 m pc ls (.ref (ad w) :: rest)) := by
  obtain ⟨C, Tt, N, h1, h2⟩ := hI (wkd w) hw.2.2.1
  have hr := c_recv hC hH hw.2.2.2.1 (sW0 hw) h1
  rcases h2 with ⟨h2, h3⟩ | ⟨h2, h3⟩
  · rw [if_pos h2] at kk
    rcases h3 with h3 | h3
    · subst h3
      exact va_instS hC.x hC.b hC.ow (hC.ts _ k1) (hC.K.1 _ _ h1).2 hr hdg kk
    · exact va_instY hC.x hC.b hC.ow (hC.ts _ k1) (hN.2.1 (C, T) h3) hr hdg kk
  · rw [if_neg h2] at kk
    exact va_instNo hC.x hC.b hC.ow (hC.ts _ k1) (hN.2.2 (C, T) h3) hr hdg kk
theorem inst1 : instOk RX1 [1, 4] := by
  intro k hk
  rcases (show k = 0 ∨ k = 1 ∨ k = 2 ∨ k = 3 ∨ k = 4 ∨ k = 5 ∨ k = 6 by omega) with rfl | rfl | rfl | rfl | rfl | rfl | rfl <;> exact ⟨_, _, _, rfl, by decide +kernel⟩
theorem inst2 : instOk RX6 [2, 5] := by
  intro k hk
  rcases (show k = 0 ∨ k = 1 ∨ k = 2 ∨ k = 3 ∨ k = 4 ∨ k = 5 ∨ k = 6 by omega) with rfl | rfl | rfl | rfl | rfl | rfl | rfl <;> exact ⟨_, _, _, rfl, by decide +kernel⟩
theorem inst3 : instOk RX5 [3, 6] := by
  intro k hk
  rcases (show k = 0 ∨ k = 1 ∨ k = 2 ∨ k = 3 ∨ k = 4 ∨ k = 5 ∨ k = 6 by omega) with rfl | rfl | rfl | rfl | rfl | rfl | rfl <;> exact ⟨_, _, _, rfl, by decide +kernel⟩
theorem inst4 : instOk RX7 [4] := by
  intro k hk
  rcases (show k = 0 ∨ k = 1 ∨ k = 2 ∨ k = 3 ∨ k = 4 ∨ k = 5 ∨ k = 6 by omega) with rfl | rfl | rfl | rfl | rfl | rfl | rfl <;> exact ⟨_, _, _, rfl, by decide +kernel⟩
theorem inst5 : instOk RX0 [5] := by
  intro k hk
  rcases (show k = 0 ∨ k = 1 ∨ k = 2 ∨ k = 3 ∨ k = 4 ∨ k = 5 ∨ k = 6 by omega) with rfl | rfl | rfl | rfl | rfl | rfl | rfl <;> exact ⟨_, _, _, rfl, by decide +kernel⟩
theorem inst6 : instOk RX8 [6] := by
  intro k hk
  rcases (show k = 0 ∨ k = 1 ∨ k = 2 ∨ k = 3 ∨ k = 4 ∨ k = 5 ∨ k = 6 by omega) with rfl | rfl | rfl | rfl | rfl | rfl | rfl <;> exact ⟨_, _, _, rfl, by decide +kernel⟩
theorem r_cast {w index : Nat} (hC : gC p s m args meth c cc nL own D cy) (hH : gH D cy shX ad L A s.heap mem H locs) (hw : wok L w) (hk : wkd w = 6) (k1 : Cond.classLink own index RX8 ∈ WS) (hdg : decode cc pc = .ok (.checkcast index, 3))
    (kk : W p l e R s m args below meth c H locs cells slots Q (F0 m (pc + 3) ls (.ref (ad w) :: rest))) : W p l e R s m args below meth c H locs cells slots Q (F0 m pc ls (.ref (ad w) :: rest)) :=
  va_castS hC.x hC.b hC.ow (hC.ts _ k1) (hC.K.1 8 _ rfl).2 (c_recv hC hH hw.2.2.2.1 (sWk hw hk) rfl) hdg kk
end GO

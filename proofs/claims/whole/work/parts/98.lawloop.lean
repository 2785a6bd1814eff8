/-! THE CLAIM OUT OF ONE WALK OF THE LAW'S BODY. Your part is whole_start (and what it stands on); all else here is the same for every law, but numbers. -/
def R_law : String := "OnTiptoeLaw"
def lw_P (b : Addr) (xs : List Int32) (args : Array Value) (s : State) : Prop := args = #[.ref b] ∧ s.IntsAt b xs ∧ xs.length ≤ 3072 ∧ (Jvm.Cond.and given_1 narrow_1).before args s = true
def lw_Q (_ : Array Value) (s : State) (o : Outcome) (t : State) : Prop := o = .returned (some (.int 1)) ∧ Framed s o t [] 600000 7302250
def lw_Z (below : List Frame) (a : Array Value) (s : State) : State → Prop := fun t => ∃ o, t.status = .running ∧ Ended t below o ∧ lw_Q a s o t
/-- the law's own end, with 1 on the stack, nothing written that was there before, its room as the claim has it -/
theorem lw_ret {p : Program} {l : Launch} {e : Env} {s : State} {m : MethodId} {below : List Frame} {meth : Method} {c : Code} {b : Nat} (hx : p.tables.exec = Jvm.exec) (hb : c.code = code) (hr : meth.sig.returnType = ret) (hlocks : meth.locks = false) {pc : Nat} {H : Heap} {ls : Array Slot} (hdg : decode code pc = .ok (.ireturn, 1)) : W p l e room_1 s m #[Value.ref b] below meth c H [] 600000 7302250 (lw_Z below #[Value.ref b] s) (F0 m pc ls [.int 1]) := by
  intro T hT X
  obtain ⟨fs, hret, hrun, hended, hW, hframe⟩ := X.leave (v := some (.int 1)) (hlocks := hlocks) (fun h => by rw [hr] at h; cases h)
  have hmeth' : T.vm.method? m = some meth := X.method'
  refine ⟨T.setFrames fs, ?_, .returned (some (.int 1)), hrun, hended, rfl, ⟨_, rfl⟩, hW, hframe⟩
  jvm_step X.here [X.here.top, hx, hb, hdg, hmeth', hr, ret, narrow_b1]
  (try refine ⟨rfl, ?_⟩); (try refine ⟨rfl, ?_⟩)
  first | (intro acts; rw [hret _ acts rfl rfl rfl]) | rw [hret _ _ rfl rfl rfl]
  exact Steps.refl _
/-- what holds at the law's entry: the machine, the code, the tables' words (any of lw_tbl by 'hts w (by decide +kernel)'), the script of L ints xs at the cell b, what the Statement gives of the start (any of its parts by flat_of_before) -/
def lw_At (p : Program) (s : State) (m : MethodId) (meth : Method) (c : Code) (b L : Nat) (xs : Nat → Int32) : Prop :=
  p.tables.exec = Jvm.exec ∧ c.code = code ∧ meth.sig.returnType = ret ∧ c.maxLocals = 4 ∧ s.vm.findClass R_law = some m.cls ∧ (∀ w ∈ lw_tbl, w.before #[Value.ref b] s = true) ∧ va_X b L xs s s.heap ∧ b < s.heap.size ∧ meth.locks = false ∧ (Jvm.Cond.and given_1 narrow_1).before #[Value.ref b] s = true
/-! the law: one round, and all of them -/
theorem law_it {p : Program} {l : Launch} {e : Env} {s : State} {m : MethodId} {args : Array Value} {below : List Frame} {meth : Method} {c : Code} {H : Heap} {locs : List Loc} {cells slots : Nat} {Q : State → Prop} {ls : Array Slot} {D : va_G} {cy : Nat → ClassId} {adK adV : Nat → Nat} {ax am b len i : Nat} {xs : Nat → Int32} (hC : gC p s m args meth c cL_law 4 RL D cy) (hEs : EZ s.heap.size adK adV s) (hXs : va_X b len xs s s.heap) (hbl : b < s.heap.size) (hlen : len ≤ 3072) (hi : i + 6 ≤ len) (hcl : cells + 4 ≤ 600000) (hsl : slots + 40 ≤ 7302250) (hS : LSt D cy s ax am H locs) (hl : lv_has ls 4 [(3, .int (nI i)), (2, .ref am), (1, .ref ax), (0, .ref b)]) (kk : ∀ (H1 : Heap) (locs1 : List Loc), LSt D cy s ax am H1 locs1 → W p l e room_1 s m args below meth c H1 locs1 (cells + 4) (slots + 40) Q (F0 m 1396 ls [])) : W p l e room_1 s m args below meth c H locs cells slots Q (F0 m 27 ls []) := by
  have hSa : va_S (fun q => s.heap.size ≤ q) s.heap H locs := by
    obtain ⟨adX, LX, x, W1, N, q, adM, mm, hH, -⟩ := hS
    exact hH.2.2.2.2.2.2.2
  refine lv_aload_n hC.x hC.b dL_law_27 rfl (lv_at hl 3 rfl) ?_
  refine lv_iload_n hC.x hC.b dL_law_28 rfl (lv_at hl 0 rfl) ?_
  refine L_s hC hXs hbl hSa (show i < len by omega) hlen dL_law_29 ?_
  refine lv_bipush (v := 63) hC.x hC.b dL_law_30 rfl ?_
  refine lv_iand hC.x hC.b dL_law_32 ?_
  refine lv_topi (fun z hz => ?_)
  rcases p_in z 39 (by decide) with ⟨k, hk, rfl⟩ | h | h
  · match k, hk with
    | 0, _ =>
      refine lv_tableIn (off := 171) (tgt := 204) hC.x hC.b dL_law_33 (by decide) (by decide) (by decide +kernel) (by decide) ?_
      exact law_0 hC hEs hXs hbl hlen hi hcl hsl hS hl kk
    | 1, _ =>
      refine lv_tableIn (off := 204) (tgt := 237) hC.x hC.b dL_law_33 (by decide) (by decide) (by decide +kernel) (by decide) ?_
      exact law_1 hC hEs hXs hbl hlen hi hcl hsl hS hl kk
    | 2, _ =>
      refine lv_tableIn (off := 253) (tgt := 286) hC.x hC.b dL_law_33 (by decide) (by decide) (by decide +kernel) (by decide) ?_
      exact law_2 hC hEs hXs hbl hlen hi hcl hsl hS hl kk
    | 3, _ =>
      refine lv_tableIn (off := 276) (tgt := 309) hC.x hC.b dL_law_33 (by decide) (by decide) (by decide +kernel) (by decide) ?_
      exact law_3 hC hEs hXs hbl hlen hi hcl hsl hS hl kk
    | 4, _ =>
      refine lv_tableIn (off := 319) (tgt := 352) hC.x hC.b dL_law_33 (by decide) (by decide) (by decide +kernel) (by decide) ?_
      exact law_4 hC hEs hXs hbl hlen hi hcl hsl hS hl kk
    | 5, _ =>
      refine lv_tableIn (off := 352) (tgt := 385) hC.x hC.b dL_law_33 (by decide) (by decide) (by decide +kernel) (by decide) ?_
      exact law_5 hC hEs hXs hbl hlen hi hcl hsl hS hl kk
    | 6, _ =>
      refine lv_tableIn (off := 385) (tgt := 418) hC.x hC.b dL_law_33 (by decide) (by decide) (by decide +kernel) (by decide) ?_
      exact law_6 hC hEs hXs hbl hlen hi hcl hsl hS hl kk
    | 7, _ =>
      refine lv_tableIn (off := 428) (tgt := 461) hC.x hC.b dL_law_33 (by decide) (by decide) (by decide +kernel) (by decide) ?_
      exact law_7 hC hEs hXs hbl hlen hi hcl hsl hS hl kk
    | 8, _ =>
      refine lv_tableIn (off := 451) (tgt := 484) hC.x hC.b dL_law_33 (by decide) (by decide) (by decide +kernel) (by decide) ?_
      exact law_8 hC hEs hXs hbl hlen hi hcl hsl hS hl kk
    | 9, _ =>
      refine lv_tableIn (off := 464) (tgt := 497) hC.x hC.b dL_law_33 (by decide) (by decide) (by decide +kernel) (by decide) ?_
      exact law_9 hC hEs hXs hbl hlen hi hcl hsl hS hl kk
    | 10, _ =>
      refine lv_tableIn (off := 487) (tgt := 520) hC.x hC.b dL_law_33 (by decide) (by decide) (by decide +kernel) (by decide) ?_
      exact law_10 hC hEs hXs hbl hlen hi hcl hsl hS hl kk
    | 11, _ =>
      refine lv_tableIn (off := 520) (tgt := 553) hC.x hC.b dL_law_33 (by decide) (by decide) (by decide +kernel) (by decide) ?_
      exact law_11 hC hEs hXs hbl hlen hi hcl hsl hS hl kk
    | 12, _ =>
      refine lv_tableIn (off := 543) (tgt := 576) hC.x hC.b dL_law_33 (by decide) (by decide) (by decide +kernel) (by decide) ?_
      exact law_12 hC hEs hXs hbl hlen hi hcl hsl hS hl kk
    | 13, _ =>
      refine lv_tableIn (off := 556) (tgt := 589) hC.x hC.b dL_law_33 (by decide) (by decide) (by decide +kernel) (by decide) ?_
      exact law_13 hC hEs hXs hbl hlen hi hcl hsl hS hl kk
    | 14, _ =>
      refine lv_tableIn (off := 579) (tgt := 612) hC.x hC.b dL_law_33 (by decide) (by decide) (by decide +kernel) (by decide) ?_
      exact law_14 hC hEs hXs hbl hlen hi hcl hsl hS hl kk
    | 15, _ =>
      refine lv_tableIn (off := 612) (tgt := 645) hC.x hC.b dL_law_33 (by decide) (by decide) (by decide +kernel) (by decide) ?_
      exact law_15 hC hEs hXs hbl hlen hi hcl hsl hS hl kk
    | 16, _ =>
      refine lv_tableIn (off := 635) (tgt := 668) hC.x hC.b dL_law_33 (by decide) (by decide) (by decide +kernel) (by decide) ?_
      exact law_16 hC hEs hXs hbl hlen hi hcl hsl hS hl kk
    | 17, _ =>
      refine lv_tableIn (off := 668) (tgt := 701) hC.x hC.b dL_law_33 (by decide) (by decide) (by decide +kernel) (by decide) ?_
      exact law_17 hC hEs hXs hbl hlen hi hcl hsl hS hl kk
    | 18, _ =>
      refine lv_tableIn (off := 701) (tgt := 734) hC.x hC.b dL_law_33 (by decide) (by decide) (by decide +kernel) (by decide) ?_
      exact law_18 hC hEs hXs hbl hlen hi hcl hsl hS hl kk
    | 19, _ =>
      refine lv_tableIn (off := 724) (tgt := 757) hC.x hC.b dL_law_33 (by decide) (by decide) (by decide +kernel) (by decide) ?_
      exact law_19 hC hEs hXs hbl hlen hi hcl hsl hS hl kk
    | 20, _ =>
      refine lv_tableIn (off := 747) (tgt := 780) hC.x hC.b dL_law_33 (by decide) (by decide) (by decide +kernel) (by decide) ?_
      exact law_20 hC hEs hXs hbl hlen hi hcl hsl hS hl kk
    | 21, _ =>
      refine lv_tableIn (off := 770) (tgt := 803) hC.x hC.b dL_law_33 (by decide) (by decide) (by decide +kernel) (by decide) ?_
      exact law_21 hC hEs hXs hbl hlen hi hcl hsl hS hl kk
    | 22, _ =>
      refine lv_tableIn (off := 793) (tgt := 826) hC.x hC.b dL_law_33 (by decide) (by decide) (by decide +kernel) (by decide) ?_
      exact law_22 hC hEs hXs hbl hlen hi hcl hsl hS hl kk
    | 23, _ =>
      refine lv_tableIn (off := 852) (tgt := 885) hC.x hC.b dL_law_33 (by decide) (by decide) (by decide +kernel) (by decide) ?_
      exact law_23 hC hEs hXs hbl hlen hi hcl hsl hS hl kk
    | 24, _ =>
      refine lv_tableIn (off := 865) (tgt := 898) hC.x hC.b dL_law_33 (by decide) (by decide) (by decide +kernel) (by decide) ?_
      exact law_24 hC hEs hXs hbl hlen hi hcl hsl hS hl kk
    | 25, _ =>
      refine lv_tableIn (off := 899) (tgt := 932) hC.x hC.b dL_law_33 (by decide) (by decide) (by decide +kernel) (by decide) ?_
      exact law_25 hC hEs hXs hbl hlen hi hcl hsl hS hl kk
    | 26, _ =>
      refine lv_tableIn (off := 933) (tgt := 966) hC.x hC.b dL_law_33 (by decide) (by decide) (by decide +kernel) (by decide) ?_
      exact law_26 hC hEs hXs hbl hlen hi hcl hsl hS hl kk
    | 27, _ =>
      refine lv_tableIn (off := 956) (tgt := 989) hC.x hC.b dL_law_33 (by decide) (by decide) (by decide +kernel) (by decide) ?_
      exact law_27 hC hEs hXs hbl hlen hi hcl hsl hS hl kk
    | 28, _ =>
      refine lv_tableIn (off := 969) (tgt := 1002) hC.x hC.b dL_law_33 (by decide) (by decide) (by decide +kernel) (by decide) ?_
      exact law_28 hC hEs hXs hbl hlen hi hcl hsl hS hl kk
    | 29, _ =>
      refine lv_tableIn (off := 1002) (tgt := 1035) hC.x hC.b dL_law_33 (by decide) (by decide) (by decide +kernel) (by decide) ?_
      exact law_29 hC hEs hXs hbl hlen hi hcl hsl hS hl kk
    | 30, _ =>
      refine lv_tableIn (off := 1015) (tgt := 1048) hC.x hC.b dL_law_33 (by decide) (by decide) (by decide +kernel) (by decide) ?_
      exact law_30 hC hEs hXs hbl hlen hi hcl hsl hS hl kk
    | 31, _ =>
      refine lv_tableIn (off := 1028) (tgt := 1061) hC.x hC.b dL_law_33 (by decide) (by decide) (by decide +kernel) (by decide) ?_
      exact law_31 hC hEs hXs hbl hlen hi hcl hsl hS hl kk
    | 32, _ =>
      refine lv_tableIn (off := 1071) (tgt := 1104) hC.x hC.b dL_law_33 (by decide) (by decide) (by decide +kernel) (by decide) ?_
      exact law_32 hC hEs hXs hbl hlen hi hcl hsl hS hl kk
    | 33, _ =>
      refine lv_tableIn (off := 1094) (tgt := 1127) hC.x hC.b dL_law_33 (by decide) (by decide) (by decide +kernel) (by decide) ?_
      exact law_33 hC hEs hXs hbl hlen hi hcl hsl hS hl kk
    | 34, _ =>
      refine lv_tableIn (off := 1127) (tgt := 1160) hC.x hC.b dL_law_33 (by decide) (by decide) (by decide +kernel) (by decide) ?_
      exact law_34 hC hEs hXs hbl hlen hi hcl hsl hS hl kk
    | 35, _ =>
      refine lv_tableIn (off := 1150) (tgt := 1183) hC.x hC.b dL_law_33 (by decide) (by decide) (by decide +kernel) (by decide) ?_
      exact law_35 hC hEs hXs hbl hlen hi hcl hsl hS hl kk
    | 36, _ =>
      refine lv_tableIn (off := 1193) (tgt := 1226) hC.x hC.b dL_law_33 (by decide) (by decide) (by decide +kernel) (by decide) ?_
      exact law_36 hC hEs hXs hbl hlen hi hcl hsl hS hl kk
    | 37, _ =>
      refine lv_tableIn (off := 1266) (tgt := 1299) hC.x hC.b dL_law_33 (by decide) (by decide) (by decide +kernel) (by decide) ?_
      exact law_37 hC hEs hXs hbl hlen hi hcl hsl hS hl kk
    | 38, _ =>
      refine lv_tableIn (off := 1300) (tgt := 1333) hC.x hC.b dL_law_33 (by decide) (by decide) (by decide +kernel) (by decide) ?_
      exact law_38 hC hEs hXs hbl hlen hi hcl hsl hS hl kk
    | k + 39, hk => exact absurd hk (by omega)
  · refine lv_tableOut (tgt := 1396) hC.x hC.b dL_law_33 (Or.inl h) (by decide) ?_
    refine W.widen (k := cells + 4) (n := slots + 40) (by omega) (by omega) ?_
    exact kk _ _ hS
  · refine lv_tableOut (tgt := 1396) hC.x hC.b dL_law_33 (Or.inr (by omega)) (by decide) ?_
    refine W.widen (k := cells + 4) (n := slots + 40) (by omega) (by omega) ?_
    exact kk _ _ hS
theorem law_loop {p : Program} {l : Launch} {e : Env} {s : State} {m : MethodId} {below : List Frame} {meth : Method} {c : Code} {D : va_G} {cy : Nat → ClassId} {adK adV : Nat → Nat} {ax am b len : Nat} {xs : Nat → Int32} (hC : gC p s m #[Value.ref b] meth c cL_law 4 RL D cy) (hr : meth.sig.returnType = ret) (hEs : EZ s.heap.size adK adV s) (hXs : va_X b len xs s s.heap) (hbl : b < s.heap.size) (hlen : len ≤ 3072) : ∀ (d j : Nat) (H : Heap) (locs : List Loc) (ls : Array Slot), j + d = 512 → LSt D cy s ax am H locs → lv_has ls 4 [(3, .int (nI (6 * j))), (2, .ref am), (1, .ref ax), (0, .ref b)] → W p l e room_1 s m #[Value.ref b] below meth c H locs (200 + 4 * j) (10000 + 40 * j) (lw_Z below #[Value.ref b] s) (F0 m 18 ls []) := by
  intro d
  induction d with
  | zero =>
    intro j H locs ls hj hS hl
    have hSa : va_S (fun q => s.heap.size ≤ q) s.heap H locs := by
      obtain ⟨adX, LX, x, W1, N, q, adM, mm, hH, -⟩ := hS
      exact hH.2.2.2.2.2.2.2
    refine lv_iload_n hC.x hC.b dL_law_18 rfl (lv_at hl 0 rfl) ?_
    refine lv_aload_n hC.x hC.b dL_law_19 rfl (lv_at hl 3 rfl) ?_
    refine va_slen hC.x hC.b hXs hbl (Nat.not_le.mpr hbl) hSa dL_law_20 ?_
    refine lv_bipush (v := 6) hC.x hC.b dL_law_21 rfl ?_
    refine lv_isub hC.x hC.b dL_law_23 ?_
    have e6 : (nI len - nI 6).toInt = (len : Int) - 6 := pk_sub_toInt (by omega) (by decide)
    refine lv_icmp_gt (tgt := 1402) hC.x hC.b dL_law_24 (by decide) (fun _ => ?_) (fun z => absurd (show nI len - nI 6 < nI (6 * j) by rw [i_lt, e6, nI_toInt (by omega)]; omega) z)
    refine va_forget (fun q hq => hSa.2.2 q hq) ?_
    refine lv_iconst (v := 1) hC.x hC.b dL_law_1402 rfl ?_
    refine W.widen (k := 600000) (n := 7302250) (by omega) (by omega) ?_
    exact lw_ret hC.x hC.b hr hC.lk dL_law_1403
  | succ d ih =>
    intro j H locs ls hj hS hl
    have hSa : va_S (fun q => s.heap.size ≤ q) s.heap H locs := by
      obtain ⟨adX, LX, x, W1, N, q, adM, mm, hH, -⟩ := hS
      exact hH.2.2.2.2.2.2.2
    refine lv_iload_n hC.x hC.b dL_law_18 rfl (lv_at hl 0 rfl) ?_
    refine lv_aload_n hC.x hC.b dL_law_19 rfl (lv_at hl 3 rfl) ?_
    refine va_slen hC.x hC.b hXs hbl (Nat.not_le.mpr hbl) hSa dL_law_20 ?_
    refine lv_bipush (v := 6) hC.x hC.b dL_law_21 rfl ?_
    refine lv_isub hC.x hC.b dL_law_23 ?_
    have e6 : (nI len - nI 6).toInt = (len : Int) - 6 := pk_sub_toInt (by omega) (by decide)
    refine lv_icmp_gt (tgt := 1402) hC.x hC.b dL_law_24 (by decide) (fun _ => ?_) (fun z => ?_)
    · refine va_forget (fun q hq => hSa.2.2 q hq) ?_
      refine lv_iconst (v := 1) hC.x hC.b dL_law_1402 rfl ?_
      refine W.widen (k := 600000) (n := 7302250) (by omega) (by omega) ?_
      exact lw_ret hC.x hC.b hr hC.lk dL_law_1403
    · have z2 : ¬ nI len - nI 6 < nI (6 * j) := z
      rw [i_lt, e6, nI_toInt (by omega)] at z2
      refine law_it hC hEs hXs hbl hlen (show 6 * j + 6 ≤ len by omega) (by omega) (by omega) hS hl (fun H1 locs1 hS1 => ?_)
      refine lv_iinc (lv' := [(3, .int (nI (6 * (j + 1)))), (2, .ref am), (1, .ref ax), (0, .ref b)]) (v := nI (6 * (j + 1))) hC.x hC.b dL_law_1396 hl (k := 0) rfl (nI_add (6 * j) 6) (by decide) rfl (fun ls hl => ?_)
      refine lv_goto (tgt := 18) hC.x hC.b dL_law_1399 (by decide) ?_
      exact ih (j + 1) H1 locs1 ls (by omega) hS1 hl

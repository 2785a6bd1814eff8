/-! the soonest way out: the class's table -/
def spT (T : Nat → Nat) (tm g b : Nat) (nzf : Nat → Nat) (dt : Nat) (k : Nat) : Nat :=
  if 3 ≤ T (g * 12 + b) then T k
  else if k = (g + 1) * 12 + b then min (T k) (T (g * 12 + b) - 1)
  else if k / 12 = g + tm ∧ bes b (k % 12) = true then min (T k) (sbN (nzf (k % 12)) dt (T (g * 12 + b)))
  else T k
def swT (T : Nat → Nat) (tm g : Nat) (nzf : Nat → Nat) (dt : Nat) : Nat → (Nat → Nat)
  | 0 => T
  | n + 1 => spT (swT T tm g nzf dt n) tm g n nzf dt
def fwN (nz : Nat → Nat → Nat) (dp : Nat → Nat) (tm dr t0 : Nat) : Nat → (Nat → Nat) → Nat → Option Nat
  | 0, _, _ => none
  | f + 1, T, g => if T (g * 12 + dr) < 3 then some g else fwN nz dp tm dr t0 f (swT T tm g (fun o => nz o (t0 + g + tm)) (dp (t0 + g + tm)) 12) (g + 1)
def ansN : Option Nat → Int32
  | none => -5
  | some g => nI g
def T0 (b s : Nat) (k : Nat) : Nat := if k = b then s else 3
def sdN (b s : Nat) : Nat := if s = 0 then (if b % 6 = 0 then 99 else b - 1) else if s = 1 then (if b % 6 = 5 then 99 else b + 1) else if b < 6 then b + 6 else b - 6
theorem x_side : ∀ b, b < 12 → ∀ s, s < 3 → f_X11_boardBeside (nI b) (nI s) = some (if sdN b s < 12 then nI (sdN b s) else -1) := by decide +kernel
theorem sd_bes : ∀ b, b < 12 → ∀ o, o < 12 → (bes b o = true ↔ o = sdN b 0 ∨ o = sdN b 1 ∨ o = sdN b 2) := by decide +kernel
theorem sd_ne : ∀ b, b < 12 → (sdN b 0 ≠ sdN b 1 ∨ 12 ≤ sdN b 0) ∧ (sdN b 0 ≠ sdN b 2) ∧ sdN b 1 ≠ sdN b 2 ∧ sdN b 0 ≠ b ∧ sdN b 1 ≠ b ∧ sdN b 2 ≠ b ∧ sdN b 2 < 12 := by decide +kernel
theorem bes_bb : ∀ b, b < 12 → bes b b = false := by decide
theorem sbN_le3 {n d s : Nat} (hs : s ≤ 2) : sbN n d s ≤ 3 := sbN_le hs
theorem spT_le {T : Nat → Nat} {tm g b dt : Nat} {nzf : Nat → Nat} (k : Nat) : spT T tm g b nzf dt k ≤ T k := by
  unfold spT
  split
  · exact Nat.le_refl _
  · split
    · exact Nat.min_le_left _ _
    · split
      · exact Nat.min_le_left _ _
      · exact Nat.le_refl _
theorem swT_le {T : Nat → Nat} {tm g dt : Nat} {nzf : Nat → Nat} : ∀ (n k : Nat), swT T tm g nzf dt n k ≤ T k
  | 0, _ => Nat.le_refl _
  | n + 1, k => Nat.le_trans (spT_le k) (swT_le n k)
section W1
variable {L : List Nat} {W : Nat → Nat} {N : Nat → List cls} {x m x' m' m0 : gMem}
def TT (x : gMem) (T : Nat → Nat) : Prop := ∀ k, k < 372 → gI x 35 k = nI (T k)
/-- all but the table is as it was -/
def ok35 (x x' : gMem) : Prop := (∀ o k, o ≠ 35 → gI x' o k = gI x o k) ∧ (∀ o k, gJ x' o k = gJ x o k) ∧ ∀ o k, gR x' o k = gR x o k
theorem ok35.rfl {x : gMem} : ok35 x x := ⟨fun _ _ _ => Eq.refl _, fun _ _ => Eq.refl _, fun _ _ => Eq.refl _⟩
theorem ok35.trans {x y z : gMem} (h1 : ok35 x y) (h2 : ok35 y z) : ok35 x z := ⟨fun o k h => (h2.1 o k h).trans (h1.1 o k h), fun o k => (h2.2.1 o k).trans (h1.2.1 o k), fun o k => (h2.2.2 o k).trans (h1.2.2 o k)⟩
theorem ok35.ag {x x' : gMem} (h : ok35 x x') : agX x x' := ⟨fun o k q => h.1 o k (by omega), fun o k _ => h.2.1 o k, h.2.2⟩
theorem ok35.set (x : gMem) (k : Nat) (v : Int32) : ok35 x (gsI x 35 k v) := ⟨fun o c h => gI_n (by omega), fun _ _ => Eq.refl _, fun _ _ => Eq.refl _⟩
theorem LT.f35 {nz : Nat → Nat → Nat} {dp : Nat → Nat} {tm dr : Nat} (h : LT x nz dp tm dr) (hx : ok35 x x') : LT x' nz dp tm dr := h.fr (fun o k q => hx.1 o k (by omega))
theorem x_least {T : Nat → Nat} (h : TT x T) {g b : Nat} (hg : g ≤ 30) (hb : b < 12) : f_X10_leastAt L x (nI g) (nI b) = some (nI (T (g * 12 + b))) := by
  have hv := h (g * 12 + b) (by omega)
  unfold f_X10_leastAt
  simp (disch := omega) only [lt1, jn, bd_s, bd2_s, oc_s, oc_n, li0, li1, li2, li3, li4, li5, li6, li7, li8, li9, li10, li11, li12, li13, li14, li16, li20, li21, li22, li24, li30, li31, li33, li38, li39, li40, li41, li45, li48, li50, li51, li57, li58, li59, li60, li61, li62, li64, li70, li71, li72, li99, li100, li101, li104, li107, li109, li116, li120, li121, li124, li127, li128, li144, li255, li300, li360, li372, li396, li600, li999, li1000, li9960, li9990, li1000000, nI_1, nI_add, pk_sub, pk_mul, pk_div, rem_nI, i_lt, i_le, i_eq, okI, ix, isB, nI_clamp, nI_toInt, tneg, gI_sI, gR_sI, gJ_sI, gI_sR, gR_sR, gJ_sR, gI_sJ, gR_sJ, gJ_sJ, true_and, and_true, false_and, and_false, if_true, if_false, if_pos, if_neg, hv]
theorem x_lower {T : Nat → Nat} (h : TT x T) (hT : ∀ k, T k ≤ 3) {g b v : Nat} (hg : g ≤ 40) (hb : b < 12) (hv : v ≤ 3) : ∃ x', f_X10_lower L x (nI g) (nI b) (nI v) = some x' ∧ ok35 x x' ∧ TT x' (fun k => if k = g * 12 + b then min (T k) v else T k) := by
  unfold f_X10_lower
  by_cases hp : g * 12 + b < 372
  · have e := h (g * 12 + b) hp
    have hTk := hT (g * 12 + b)
    by_cases hle : T (g * 12 + b) ≤ v
    · refine ⟨x, ?_, ok35.rfl, fun k hk => ?_⟩
      · simp (disch := omega) only [lt1, jn, bd_s, bd2_s, oc_s, oc_n, li0, li1, li2, li3, li4, li5, li6, li7, li8, li9, li10, li11, li12, li13, li14, li16, li20, li21, li22, li24, li30, li31, li33, li38, li39, li40, li41, li45, li48, li50, li51, li57, li58, li59, li60, li61, li62, li64, li70, li71, li72, li99, li100, li101, li104, li107, li109, li116, li120, li121, li124, li127, li128, li144, li255, li300, li360, li372, li396, li600, li999, li1000, li9960, li9990, li1000000, nI_1, nI_add, pk_sub, pk_mul, pk_div, rem_nI, i_lt, i_le, i_eq, okI, ix, isB, nI_clamp, nI_toInt, tneg, gI_sI, gR_sI, gJ_sI, gI_sR, gR_sR, gJ_sR, gI_sJ, gR_sJ, gJ_sJ, true_and, and_true, false_and, and_false, if_true, if_false, if_pos, if_neg, e]
      · dsimp only
        rw [h k hk]
        by_cases hk2 : k = g * 12 + b
        · subst hk2; rw [if_pos rfl, Nat.min_eq_left hle]
        · rw [if_neg hk2]
    · refine ⟨gsI x 35 (g * 12 + b) (nI v), ?_, ok35.set _ _ _, fun k hk => ?_⟩
      · simp (disch := omega) only [lt1, jn, bd_s, bd2_s, oc_s, oc_n, li0, li1, li2, li3, li4, li5, li6, li7, li8, li9, li10, li11, li12, li13, li14, li16, li20, li21, li22, li24, li30, li31, li33, li38, li39, li40, li41, li45, li48, li50, li51, li57, li58, li59, li60, li61, li62, li64, li70, li71, li72, li99, li100, li101, li104, li107, li109, li116, li120, li121, li124, li127, li128, li144, li255, li300, li360, li372, li396, li600, li999, li1000, li9960, li9990, li1000000, nI_1, nI_add, pk_sub, pk_mul, pk_div, rem_nI, i_lt, i_le, i_eq, okI, ix, isB, nI_clamp, nI_toInt, tneg, gI_sI, gR_sI, gJ_sI, gI_sR, gR_sR, gJ_sR, gI_sJ, gR_sJ, gJ_sJ, true_and, and_true, false_and, and_false, if_true, if_false, if_pos, if_neg, e]
      · dsimp only
        by_cases hk2 : k = g * 12 + b
        · subst hk2; rw [gI_y ⟨rfl, rfl⟩, if_pos rfl, Nat.min_eq_right (by omega)]
        · rw [gI_n (by omega), if_neg hk2, h k hk]
  · refine ⟨x, ?_, ok35.rfl, fun k hk => ?_⟩
    · simp (disch := omega) only [lt1, jn, bd_s, bd2_s, oc_s, oc_n, li0, li1, li2, li3, li4, li5, li6, li7, li8, li9, li10, li11, li12, li13, li14, li16, li20, li21, li22, li24, li30, li31, li33, li38, li39, li40, li41, li45, li48, li50, li51, li57, li58, li59, li60, li61, li62, li64, li70, li71, li72, li99, li100, li101, li104, li107, li109, li116, li120, li121, li124, li127, li128, li144, li255, li300, li360, li372, li396, li600, li999, li1000, li9960, li9990, li1000000, nI_1, nI_add, pk_sub, pk_mul, pk_div, rem_nI, i_lt, i_le, i_eq, okI, ix, isB, nI_clamp, nI_toInt, tneg, gI_sI, gR_sI, gJ_sI, gI_sR, gR_sR, gJ_sR, gI_sJ, gR_sJ, gJ_sJ, true_and, and_true, false_and, and_false, if_true, if_false, if_pos, if_neg]
    · dsimp only
      rw [h k hk, if_neg (by omega)]
theorem x_spread {nz : Nat → Nat → Nat} {dp : Nat → Nat} {tm dr : Nat} {T : Nat → Nat} (hL : LT x nz dp tm dr) (htm : 1 ≤ tm ∧ tm ≤ 2) (hnz : ∀ o t, o < 12 → nz o t ≤ 1030) (h : TT x T) (hT : ∀ k, T k ≤ 3) {g b th dt : Nat} (hg : g ≤ 30) (hb : b < 12) (hth : th < 12) (hdt : dt ≤ 1100) : ∃ x', f_X10_spread L x (nI g) (nI b) (nI th) (nI dt) = some x' ∧ ok35 x x' ∧ TT x' (spT T tm g b (fun o => nz o th) dt) := by
  unfold f_X10_spread
  rw [x_least h hg hb, bd_s]
  have hTk := hT (g * 12 + b)
  by_cases h3 : T (g * 12 + b) < 3
  rotate_left
  · refine ⟨x, ?_, ok35.rfl, fun k hk => ?_⟩
    · rw [if_neg (show ¬ nI (T (g * 12 + b)) < 3 from nI_nlt (b := 3) (by omega) (by omega))]
    · rw [h k hk, spT, if_pos (by omega)]
  rw [if_pos (show nI (T (g * 12 + b)) < 3 from nI_lt (b := 3) h3 (by decide))]
  have e0 := sub0 (s := T (g * 12 + b)) (k := 1) (by omega) (by omega)
  have e0 : (if (0 : Int32) < nI (T (g * 12 + b)) - 1 then nI (T (g * 12 + b)) - 1 else (0 : Int32)) = nI (T (g * 12 + b) - 1) := e0
  obtain ⟨x1, a1, a2, a3⟩ := x_lower (L := L) h hT (g := g + 1) (b := b) (v := T (g * 12 + b) - 1) (by omega) hb (by omega)
  rw [e0, nI_1, a1, bd_s]
  have hS : ∀ n, sbN n dt (T (g * 12 + b)) ≤ 3 := fun n => sbN_le (by omega)
  have step : ∀ (s : Nat) (x2 : gMem) (T2 : Nat → Nat) (F : Int32 → gMem → Option gMem), s < 3 → ok35 x1 x2 → TT x2 T2 → (∀ k, T2 k ≤ 3) → ∃ x3, s_X10_spread_34 (nI b) L (nI th) (nI dt) (nI (T (g * 12 + b))) (nI g) F (nI s) x2 = F (nI (s + 1)) x3 ∧ ok35 x1 x3 ∧ TT x3 (fun k => if sdN b s < 12 ∧ k = (g + tm) * 12 + sdN b s then min (T2 k) (sbN (nz (sdN b s) th) dt (T (g * 12 + b))) else T2 k) := by
    intro s x2 T2 F hs o2 t2 l2
    have hL2 := (hL.f35 a2).f35 o2
    unfold s_X10_spread_34
    rw [if_neg (show ¬ (3 : Int32) ≤ nI s from nI_ge (b := 3) hs (by decide)), x_side b hb s hs, bd_s]
    by_cases hd : sdN b s < 12
    · have hn := x_noiseAt (L := L) hL2 (b := sdN b s) (t := th) hd (by omega)
      rw [Nat.mod_eq_of_lt hth] at hn
      have hsb := x_sb (n := nz (sdN b s) th) (d := dt) (s := T (g * 12 + b)) (by have := hnz (sdN b s) th hd; omega) (by omega) (by omega)
      obtain ⟨x3, b1, b2, b3⟩ := x_lower (L := L) t2 l2 (g := g + tm) (b := sdN b s) (v := sbN (nz (sdN b s) th) dt (T (g * 12 + b))) (by omega) hd (hS _)
      refine ⟨x3, ?_, o2.trans b2, fun k hk => ?_⟩
      · rw [if_pos hd, x_isBoard, if_pos (okN hd (by decide)), bd_s]
        simp only [jn]
        rw [if_neg (by decide), hn, bd_s, hsb, bd_s, hL2.1, nI_add, b1, bd_s, lt1_s, nI_1]
      · rw [b3 k hk]
        dsimp only
        by_cases hk2 : k = (g + tm) * 12 + sdN b s
        · rw [if_pos hk2, if_pos ⟨hd, hk2⟩]
        · rw [if_neg hk2, if_neg (fun q => hk2 q.2)]
    · refine ⟨x2, ?_, o2, fun k hk => ?_⟩
      · rw [if_neg hd, x_isBoard, if_neg (by decide), bd_s]
        simp only [jn]
        rw [if_pos trivial, lt1_s, nI_1]
      · dsimp only
        rw [t2 k hk, if_neg (fun q => hd q.1)]
  have l1 : ∀ k, (if k = (g + 1) * 12 + b then min (T k) (T (g * 12 + b) - 1) else T k) ≤ 3 := fun k => by
    split
    · exact Nat.le_trans (Nat.min_le_left _ _) (hT k)
    · exact hT k
  have lmin : ∀ (c : Prop) [Decidable c] (a v : Nat), a ≤ 3 → (if c then min a v else a) ≤ 3 := fun c _ a v ha => by
    split
    · exact Nat.le_trans (Nat.min_le_left _ _) ha
    · exact ha
  obtain ⟨x2, c1, c2, c3⟩ := step 0 x1 _ (lq2 (s_X10_spread_34 (nI b) L (nI th) (nI dt) (nI (T (g * 12 + b))) (nI g)) 999) (by decide) ok35.rfl a3 l1
  obtain ⟨x3, d1, d2, d3⟩ := step 1 x2 _ (lq2 (s_X10_spread_34 (nI b) L (nI th) (nI dt) (nI (T (g * 12 + b))) (nI g)) 998) (by decide) c2 c3 (fun k => lmin _ _ _ (l1 k))
  obtain ⟨x4, f1, f2, f3⟩ := step 2 x3 _ (lq2 (s_X10_spread_34 (nI b) L (nI th) (nI dt) (nI (T (g * 12 + b))) (nI g)) 997) (by decide) d2 d3 (fun k => lmin _ _ _ (lmin _ _ _ (l1 k)))
  refine ⟨x4, ?_, a2.trans f2, fun k hk => ?_⟩
  · rw [li0, lq2_u, c1, lq2_u, d1, lq2_u, f1, lq2_u]
    generalize lq2 (s_X10_spread_34 (nI b) L (nI th) (nI dt) (nI (T (g * 12 + b))) (nI g)) 996 = F
    unfold s_X10_spread_34
    rw [if_pos (show (3 : Int32) ≤ nI (2 + 1) by decide)]
  · rw [f3 k hk]
    dsimp only
    congr 1
    obtain ⟨n1, n2, n3, n4, n5, n6, n7⟩ := sd_ne b hb
    have hsp : spT T tm g b (fun o => nz o th) dt k = if k = (g + 1) * 12 + b then min (T k) (T (g * 12 + b) - 1) else if k / 12 = g + tm ∧ bes b (k % 12) = true then min (T k) (sbN (nz (k % 12) th) dt (T (g * 12 + b))) else T k := by
      rw [spT, if_neg (by omega)]
    rw [hsp]
    by_cases hs : k = (g + 1) * 12 + b
    · have z0 : ¬ (sdN b 0 < 12 ∧ k = (g + tm) * 12 + sdN b 0) := by omega
      have z1 : ¬ (sdN b 1 < 12 ∧ k = (g + tm) * 12 + sdN b 1) := by omega
      have z2 : ¬ (sdN b 2 < 12 ∧ k = (g + tm) * 12 + sdN b 2) := by omega
      simp only [if_neg z0, if_neg z1, if_neg z2, if_pos hs]
    · have hb2 := sd_bes b hb (k % 12) (Nat.mod_lt _ (by decide))
      by_cases hr : k / 12 = g + tm ∧ bes b (k % 12) = true
      · rw [if_pos hr]
        rcases hb2.mp hr.2 with e | e | e
        · have z0 : sdN b 0 < 12 ∧ k = (g + tm) * 12 + sdN b 0 := by omega
          have z1 : ¬ (sdN b 1 < 12 ∧ k = (g + tm) * 12 + sdN b 1) := by omega
          have z2 : ¬ (sdN b 2 < 12 ∧ k = (g + tm) * 12 + sdN b 2) := by omega
          simp only [if_pos z0, if_neg z1, if_neg z2, if_neg hs, e]
        · have z0 : ¬ (sdN b 0 < 12 ∧ k = (g + tm) * 12 + sdN b 0) := by omega
          have z1 : sdN b 1 < 12 ∧ k = (g + tm) * 12 + sdN b 1 := by omega
          have z2 : ¬ (sdN b 2 < 12 ∧ k = (g + tm) * 12 + sdN b 2) := by omega
          simp only [if_neg z0, if_pos z1, if_neg z2, if_neg hs, e]
        · have z0 : ¬ (sdN b 0 < 12 ∧ k = (g + tm) * 12 + sdN b 0) := by omega
          have z1 : ¬ (sdN b 1 < 12 ∧ k = (g + tm) * 12 + sdN b 1) := by omega
          have z2 : sdN b 2 < 12 ∧ k = (g + tm) * 12 + sdN b 2 := by omega
          simp only [if_neg z0, if_neg z1, if_pos z2, if_neg hs, e]
      · have key : ∀ s, (s = 0 ∨ s = 1 ∨ s = 2) → ¬ (sdN b s < 12 ∧ k = (g + tm) * 12 + sdN b s) := fun s hs3 q => hr ⟨by omega, hb2.mpr (by rcases hs3 with rfl | rfl | rfl <;> omega)⟩
        simp only [if_neg (key 0 (by omega)), if_neg (key 1 (by omega)), if_neg (key 2 (by omega)), if_neg hs, if_neg hr]
theorem x_sweep {nz : Nat → Nat → Nat} {dp : Nat → Nat} {tm dr : Nat} (htm : 1 ≤ tm ∧ tm ≤ 2) (hnz : ∀ o t, o < 12 → nz o t ≤ 1030) {g th e : Nat} (hg : g ≤ 30) (hth : th < 12) (hdt : dp th + e ≤ 1100) (J : gMem → Option (Int32 × gMem)) {T : Nat → Nat} (hT : ∀ k, T k ≤ 3) : ∀ (d b fuel : Nat) (x : gMem), LT x nz dp tm dr → TT x (swT T tm g (fun o => nz o th) (dp th + e) b) → d + b = 12 → d < fuel → ∃ x', lq2 (s_X10_fewest_90 J (nI th) L (nI g) (nI e)) fuel (nI b) x = J x' ∧ ok35 x x' ∧ TT x' (swT T tm g (fun o => nz o th) (dp th + e) 12)
  | 0, b, fuel, x, hL, h, h1, h2 => by
    obtain ⟨f, rfl⟩ : ∃ f, fuel = f + 1 := ⟨fuel - 1, by omega⟩
    have hb : b = 12 := by omega
    subst hb
    refine ⟨x, ?_, ok35.rfl, h⟩
    rw [lq2_u]
    generalize lq2 (s_X10_fewest_90 J (nI th) L (nI g) (nI e)) f = F
    unfold s_X10_fewest_90
    rw [if_pos (by decide)]
  | d + 1, b, fuel, x, hL, h, h1, h2 => by
    obtain ⟨f, rfl⟩ : ∃ f, fuel = f + 1 := ⟨fuel - 1, by omega⟩
    obtain ⟨x1, a1, a2, a3⟩ := x_spread (L := L) hL htm hnz h (fun k => Nat.le_trans (swT_le _ _) (hT k)) hg (show b < 12 by omega) hth hdt
    obtain ⟨x', b1, b2, b3⟩ := x_sweep htm hnz hg hth hdt J hT d (b + 1) f x1 (hL.f35 a2) a3 (by omega) (by omega)
    refine ⟨x', ?_, a2.trans b2, b3⟩
    rw [← b1, lq2_u]
    generalize lq2 (s_X10_fewest_90 J (nI th) L (nI g) (nI e)) f = F
    unfold s_X10_fewest_90
    rw [if_neg (show ¬ (12 : Int32) ≤ nI b from nI_ge (b := 12) (by omega) (by decide)), if_pos (okN hth (by decide)), ixN (by omega), hL.2.2.1 th hth, nI_add, a1, bd_s, lt1_s, nI_1]
theorem x_out_loop {nz : Nat → Nat → Nat} {dp : Nat → Nat} {tm dr t0 e : Nat} (htm : 1 ≤ tm ∧ tm ≤ 2) (hnz : ∀ o t, o < 12 → nz o t ≤ 1030) (hdr : dr < 12) (ht0 : t0 ≤ 30000) (hpn : ∀ o t, nz o (t % 12) = nz o t) (hpd : ∀ t, dp (t % 12) = dp t) (hdt : ∀ t, dp t + e ≤ 1100) : ∀ (f g fuel : Nat) (x : gMem) (T : Nat → Nat), LT x nz dp tm dr → TT x T → (∀ k, T k ≤ 3) → f + g = 31 → f < fuel → ∃ x', lq2 (s_X10_fewest_47 L (nI t0) (nI e)) fuel (nI g) x = some (ansN (fwN nz (fun t => dp t + e) tm dr t0 f T g), x') ∧ ok35 x x'
  | 0, g, fuel, x, T, hL, h, hT, h1, h2 => by
    obtain ⟨f, rfl⟩ : ∃ f, fuel = f + 1 := ⟨fuel - 1, by omega⟩
    refine ⟨x, ?_, ok35.rfl⟩
    rw [lq2_u]
    generalize lq2 (s_X10_fewest_47 L (nI t0) (nI e)) f = F
    unfold s_X10_fewest_47
    rw [if_pos (show (30 : Int32) < nI g from nI_lt (a := 30) (by omega) (by omega))]
    rfl
  | f + 1, g, fuel, x, T, hL, h, hT, h1, h2 => by
    obtain ⟨fu, rfl⟩ : ∃ f, fuel = f + 1 := ⟨fuel - 1, by omega⟩
    have hTk := hT (g * 12 + dr)
    have c30 : ¬ (30 : Int32) < nI g := nI_nlt (b := g) (a := 30) (by omega) (by decide)
    by_cases h3 : T (g * 12 + dr) < 3
    · refine ⟨x, ?_, ok35.rfl⟩
      rw [lq2_u]
      generalize lq2 (s_X10_fewest_47 L (nI t0) (nI e)) fu = F
      unfold s_X10_fewest_47
      rw [if_neg c30, hL.2.1, x_least h (by omega) hdr, bd_s, if_neg (show ¬ (3 : Int32) ≤ nI (T (g * 12 + dr)) from nI_ge (b := 3) h3 (by decide)), fwN, if_pos h3]
      rfl
    · have hmd := x_mod (t := t0 + g + tm) (d := 12) (by omega) (by decide) (by decide)
      obtain ⟨x1, a1, a2, a3⟩ := x_sweep (L := L) htm hnz (g := g) (th := (t0 + g + tm) % 12) (e := e) (by omega) (Nat.mod_lt _ (by decide)) (hdt _) (fun (m21 : gMem) => lt1 (nI g + (1 : Int32)) fun (x22 : Int32) => lq2 (s_X10_fewest_47 L (nI t0) (nI e)) fu x22 m21) hT 12 0 1000 x hL h rfl (by decide)
      have hfn : (fun o => nz o ((t0 + g + tm) % 12)) = fun o => nz o (t0 + g + tm) := by funext o; exact hpn o _
      rw [hfn, hpd] at a3
      obtain ⟨x', b1, b2⟩ := x_out_loop htm hnz hdr ht0 hpn hpd hdt f (g + 1) fu x1 _ (hL.f35 a2) a3 (fun k => Nat.le_trans (swT_le _ _) (hT k)) (by omega) (by omega)
      refine ⟨x', ?_, a2.trans b2⟩
      rw [fwN, if_neg h3, ← b1, lq2_u]
      simp only [lt1] at a1
      rw [nI_1] at a1
      rw [← a1]
      generalize lq2 (s_X10_fewest_47 L (nI t0) (nI e)) fu = F
      unfold s_X10_fewest_47
      rw [if_neg c30, hL.2.1, x_least h (by omega) hdr, bd_s, if_pos (show (3 : Int32) ≤ nI (T (g * 12 + dr)) from nI_le (a := 3) (by omega) (by omega)), hL.1, nI_add, nI_add, li12, hmd, bd_s]
      simp only [jn, lt1]
      rw [nI_1]
      rfl
theorem x_init (J : gMem → Option (Int32 × gMem)) : ∀ (d k fuel : Nat) (x : gMem), d + k = 372 → d < fuel → ∃ x', lq2 (s_X10_fewest_13 J) fuel (nI k) x = J x' ∧ ok35 x x' ∧ (∀ c, c < k → gI x' 35 c = gI x 35 c) ∧ ∀ c, k ≤ c → c < 372 → gI x' 35 c = nI 3
  | 0, k, fuel, x, h1, h2 => by
    obtain ⟨f, rfl⟩ : ∃ f, fuel = f + 1 := ⟨fuel - 1, by omega⟩
    refine ⟨x, ?_, ok35.rfl, fun _ _ => rfl, fun c p q => by omega⟩
    rw [lq2_u]
    generalize lq2 (s_X10_fewest_13 J) f = F
    unfold s_X10_fewest_13
    simp (disch := omega) only [lt1, jn, bd_s, bd2_s, oc_s, oc_n, li0, li1, li2, li3, li4, li5, li6, li7, li8, li9, li10, li11, li12, li13, li14, li16, li20, li21, li22, li24, li30, li31, li33, li38, li39, li40, li41, li45, li48, li50, li51, li57, li58, li59, li60, li61, li62, li64, li70, li71, li72, li99, li100, li101, li104, li107, li109, li116, li120, li121, li124, li127, li128, li144, li255, li300, li360, li372, li396, li600, li999, li1000, li9960, li9990, li1000000, nI_1, nI_add, pk_sub, pk_mul, pk_div, rem_nI, i_lt, i_le, i_eq, okI, ix, isB, nI_clamp, nI_toInt, tneg, gI_sI, gR_sI, gJ_sI, gI_sR, gR_sR, gJ_sR, gI_sJ, gR_sJ, gJ_sJ, true_and, and_true, false_and, and_false, if_true, if_false, if_pos, if_neg]
  | d + 1, k, fuel, x, h1, h2 => by
    obtain ⟨f, rfl⟩ : ∃ f, fuel = f + 1 := ⟨fuel - 1, by omega⟩
    obtain ⟨x', a1, a2, a3, a4⟩ := x_init J d (k + 1) f (gsI x 35 k (nI 3)) (by omega) (by omega)
    refine ⟨x', ?_, (ok35.set x k _).trans a2, fun c hc => ?_, fun c p q => ?_⟩
    · rw [← a1, lq2_u]
      generalize lq2 (s_X10_fewest_13 J) f = F
      unfold s_X10_fewest_13
      simp (disch := omega) only [lt1, jn, bd_s, bd2_s, oc_s, oc_n, li0, li1, li2, li3, li4, li5, li6, li7, li8, li9, li10, li11, li12, li13, li14, li16, li20, li21, li22, li24, li30, li31, li33, li38, li39, li40, li41, li45, li48, li50, li51, li57, li58, li59, li60, li61, li62, li64, li70, li71, li72, li99, li100, li101, li104, li107, li109, li116, li120, li121, li124, li127, li128, li144, li255, li300, li360, li372, li396, li600, li999, li1000, li9960, li9990, li1000000, nI_1, nI_add, pk_sub, pk_mul, pk_div, rem_nI, i_lt, i_le, i_eq, okI, ix, isB, nI_clamp, nI_toInt, tneg, gI_sI, gR_sI, gJ_sI, gI_sR, gR_sR, gJ_sR, gI_sJ, gR_sJ, gJ_sJ, true_and, and_true, false_and, and_false, if_true, if_false, if_pos, if_neg]
    · rw [a3 c (by omega), gI_n (by omega)]
    · by_cases hc : c = k
      · subst hc; rw [a3 c (by omega), gI_y ⟨rfl, rfl⟩]
      · exact a4 c (by omega) q
theorem x_fewest {nz : Nat → Nat → Nat} {dp : Nat → Nat} {tm dr t0 e b s : Nat} (hL : LT x nz dp tm dr) (htm : 1 ≤ tm ∧ tm ≤ 2) (hnz : ∀ o t, o < 12 → nz o t ≤ 1030) (hdr : dr < 12) (ht0 : t0 ≤ 30000) (hpn : ∀ o t, nz o (t % 12) = nz o t) (hpd : ∀ t, dp (t % 12) = dp t) (hdt : ∀ t, dp t + e ≤ 1100) (hb : b < 12) (hs : s ≤ 2) : ∃ x', f_X10_fewest L x (nI b) (nI t0) (nI s) (nI e) = some (ansN (fwN nz (fun t => dp t + e) tm dr t0 31 (T0 b s) 0), x') ∧ ok35 x x' := by
  obtain ⟨x1, a1, a2, -, a4⟩ := x_init (fun (m8 : gMem) => if okI (nI b) 372 then lt1 (gsI m8 35 (ix (nI b)) (nI s)) fun (m9 : gMem) => lq2 (s_X10_fewest_47 L (nI t0) (nI e)) 1000 (nI 0) m9 else none) 372 0 1000 x rfl (by decide)
  obtain ⟨x', b1, b2⟩ := x_out_loop (L := L) htm hnz hdr ht0 hpn hpd hdt 31 0 1000 (gsI x1 35 b (nI s)) (T0 b s) ((hL.f35 a2).f35 (ok35.set _ _ _)) (fun k hk => by
    unfold T0
    by_cases h : k = b
    · subst h; rw [gI_y ⟨rfl, rfl⟩, if_pos rfl]
    · rw [gI_n (by omega), if_neg h, a4 k (by omega) hk]) (fun k => by unfold T0; split <;> omega) rfl (by decide)
  refine ⟨x', ?_, (a2.trans (ok35.set _ _ _)).trans b2⟩
  rw [← b1]
  rw [if_pos (okN (show b < 372 by omega) (by decide)), ixN (by omega), lt1_s] at a1
  rw [← a1]
  unfold f_X10_fewest
  rw [x_isBoard, if_pos (okN hb (by decide)), bd_s, if_neg (by decide), jn_s, li0, ixN (show b < 2 ^ 31 by omega)]
end W1

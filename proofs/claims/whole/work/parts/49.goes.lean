/-! goes, odds -/
def GC (x m : gMem) (b t s : Nat) : Prop := gI x 32 5 = nI b ∧ gI x 32 6 = nI t ∧ gI x 32 7 = nI s ∧ gI m 0 32 = nI b ∧ gI m 0 33 = nI t ∧ gI m 0 34 = nI s
section G1
variable {L : List Nat} {W : Nat → Nat} {N : Nat → List cls} {x m x' m' m0 : gMem}
theorem nzO_ag (h : agM m m') {i b t : Nat} : nzO N W m' i b t = nzO N W m i b t := by
  have c1 : curP N m' = curP N m := curP_fr (h.1 0 12 (by omega))
  have c2 : vO m' i = vO m i := by unfold vO; rw [h.1 3 i (by omega)]
  have c3 : rowO m' i = rowO m i := by funext j; unfold rowO; rw [h.1 5 _ (by omega)]
  have c4 : crO m' = crO m := by funext j; unfold crO; rw [h.1 1 _ (by omega)]
  have c5 : tyO m' = tyO m := by unfold tyO; rw [h.1 0 3 (by omega)]
  unfold nzO
  rw [c1, c2, c3, c4, c5]
theorem nzO_mod (i b t : Nat) : nzO N W m i b (t % 12) = nzO N W m i b t := by
  unfold nzO nzG
  rw [nzN_mod, ldN_mod]
theorem x_noiseAt {nz : Nat → Nat → Nat} {dp : Nat → Nat} {tm dr : Nat} (h : LT x nz dp tm dr) {b t : Nat} (hb : b < 12) (ht : t < 2 ^ 20) : f_X10_noiseAt L x (nI b) (nI t) = some (nI (nz b (t % 12))) := by
  have hv := h.2.2.2 (t % 12) b (by omega) hb
  have e := x_mod (t := t) (d := 12) ht (by decide) (by decide)
  unfold f_X10_noiseAt
  rw [li12, e, bd_s, lt1_s, pk_mul, nI_add]
  simp (disch := omega) only [lt1, jn, bd_s, bd2_s, oc_s, oc_n, li0, li1, li2, li3, li4, li5, li6, li7, li8, li9, li10, li11, li12, li13, li14, li16, li20, li21, li22, li24, li30, li31, li33, li38, li39, li40, li41, li45, li48, li50, li51, li57, li58, li59, li60, li61, li62, li64, li70, li71, li72, li99, li100, li101, li104, li107, li109, li116, li120, li121, li124, li127, li128, li144, li255, li300, li360, li372, li396, li600, li999, li1000, li9960, li9990, li1000000, nI_1, nI_add, pk_sub, pk_mul, pk_div, rem_nI, i_lt, i_le, i_eq, okI, ix, isB, nI_clamp, nI_toInt, tneg, gI_sI, gR_sI, gJ_sI, gI_sR, gR_sR, gJ_sR, gI_sJ, gR_sJ, gJ_sJ, true_and, and_true, false_and, and_false, if_true, if_false, if_pos, if_neg, hv]
theorem follow_loop {n i dr : Nat} (hn : n ≤ 4) (en : gI m0 0 0 = nI n) (hi : i < n) : ∀ (d k f1 f2 b t s : Nat) (x m : gMem), Rel L W N x m → agM m0 m → LT x (nzO N W m0 i) (depN (curP N m0)) (tmN (wkd (W i))) dr → GC x m b t s → b < 12 → t + 2 * d ≤ 30000 → s ≤ 2 → d + k = 12 → d < f1 → d < f2 → ∃ a x' m' b' t' s', lq2 (s_X10_follow_19 L (fun (x21 : Int32) (m22 : gMem) => lt1 (gsI m22 32 7 (0 : Int32)) fun (m23 : gMem) => some (x21, m23))) f1 (nI k) x = some (a, x') ∧ lq2 (s_X12_goesBy_23 (nI i) (fun (x23 : Int32) (m24 : gMem) => lt1 (gsI m24 0 34 (0 : Int32)) fun (m25 : gMem) => some (x23, m25))) f2 (nI k) m = some (a, m') ∧ Rel L W N x' m' ∧ agM m0 m' ∧ LT x' (nzO N W m0 i) (depN (curP N m0)) (tmN (wkd (W i))) dr ∧ GC x' m' b' t' s' ∧ (a = -5 ∨ ∃ j, j ≤ 12 ∧ a = nI j)
  | 0, k, f1, f2, b, t, s, x, m, H, A, hL, G, hb, ht, hs, h1, h2, h3 => by
    obtain ⟨f1, rfl⟩ : ∃ f, f1 = f + 1 := ⟨f1 - 1, by omega⟩
    obtain ⟨f2, rfl⟩ : ∃ f, f2 = f + 1 := ⟨f2 - 1, by omega⟩
    obtain ⟨c, hc, ec⟩ : rg (gI m 0 30) 12 := H.1.2.2.2.2.2.2.2.2.1
    have ex : gI x 10 8 = gI m 0 30 := H.1.1.2.2.2.2.2.2.1
    refine ⟨-5, x, m, b, t, s, ?_, ?_, H, A, hL, G, Or.inl rfl⟩
    · rw [lq2_u]
      unfold s_X10_follow_19
      rw [ex, ec, if_pos (nI_le (by omega) (by omega))]
    · rw [lq2_u]
      unfold s_X12_goesBy_23
      rw [ec, if_pos (nI_le (by omega) (by omega))]
  | d + 1, k, f1, f2, b, t, s, x, m, H, A, hL, G, hb, ht, hs, h1, h2, h3 => by
    obtain ⟨f1, rfl⟩ : ∃ f, f1 = f + 1 := ⟨f1 - 1, by omega⟩
    obtain ⟨f2, rfl⟩ : ∃ f, f2 = f + 1 := ⟨f2 - 1, by omega⟩
    obtain ⟨c, hc, ec⟩ : rg (gI m 0 30) 12 := H.1.2.2.2.2.2.2.2.2.1
    have ex : gI x 10 8 = gI m 0 30 := H.1.1.2.2.2.2.2.2.1
    have hk : k < 12 := by omega
    have exw : gI x 12 k = gI m 16 k := H.1.2.1.2.1 k hk
    have enm : gI m 0 0 = nI n := (A.1 _ _ (by omega)).trans en
    obtain ⟨q1, q2, q3, q4, q5, q6, q7, q8, q9⟩ := (H.2.1.w enm hn).1 i hi
    have htm := tmN_le (wkd (W i))
    obtain ⟨g1, g2, g3, g4, g5, g6⟩ := G
    have ih := fun (b' t' s' : Nat) (x' m' : gMem) (H' : Rel L W N x' m') (A' : agM m0 m') (L' : LT x' (nzO N W m0 i) (depN (curP N m0)) (tmN (wkd (W i))) dr) (G' : GC x' m' b' t' s') (hb' : b' < 12) (ht' : t' + 2 * d ≤ 30000) (hs' : s' ≤ 2) => follow_loop hn en hi d (k + 1) f1 f2 b' t' s' x' m' H' A' L' G' hb' ht' hs' (by omega) (by omega) (by omega)
    rw [lq2_u, lq2_u]
    generalize lq2 (s_X10_follow_19 L (fun (x21 : Int32) (m22 : gMem) => lt1 (gsI m22 32 7 (0 : Int32)) fun (m23 : gMem) => some (x21, m23))) f1 = F1 at ih ⊢
    generalize lq2 (s_X12_goesBy_23 (nI i) (fun (x23 : Int32) (m24 : gMem) => lt1 (gsI m24 0 34 (0 : Int32)) fun (m25 : gMem) => some (x23, m25))) f2 = F2 at ih ⊢
    unfold s_X10_follow_19 s_X12_goesBy_23
    by_cases hkc : k < c
    rotate_left
    · exact ⟨-5, x, m, b, t, s, by rw [ex, ec, if_pos (nI_le (by omega) (by omega))], by rw [ec, if_pos (nI_le (by omega) (by omega))], H, A, hL, ⟨g1, g2, g3, g4, g5, g6⟩, Or.inl rfl⟩
    have c1 : ¬ nI c ≤ nI k := nI_ge hkc (by omega)
    have c2 : ¬ (12 : Int32) ≤ nI k := nI_ge (b := 12) hk (by decide)
    have c3 := okN hk (show 12 < 2 ^ 31 by decide)
    rw [ex, ec, if_neg c1, if_neg c2, if_pos c3, if_neg c1, if_pos c3, ixN (by omega), exw, g1, g4]
    have hs0 := sub0 (s := s) (k := 1) (by omega) (by omega)
    have wait : ∃ a x' m' b' t' s', F1 (nI (k + 1)) (gsI (gsI x 32 6 (nI (t + 1))) 32 7 (nI (s - 1))) = some (a, x') ∧ F2 (nI (k + 1)) (gsI (gsI m 0 33 (nI (t + 1))) 0 34 (nI (s - 1))) = some (a, m') ∧ Rel L W N x' m' ∧ agM m0 m' ∧ LT x' (nzO N W m0 i) (depN (curP N m0)) (tmN (wkd (W i))) dr ∧ GC x' m' b' t' s' ∧ (a = -5 ∨ ∃ j, j ≤ 12 ∧ a = nI j) := by
      have AX : agX x (gsI (gsI x 32 6 (nI (t + 1))) 32 7 (nI (s - 1))) := ⟨fun o k q => by rw [gI_n (by omega), gI_n (by omega)], fun _ _ _ => rfl, fun _ _ => rfl⟩
      have AM : agM m (gsI (gsI m 0 33 (nI (t + 1))) 0 34 (nI (s - 1))) := ⟨fun o k q => by rw [gI_n (by omega), gI_n (by omega)], fun _ _ _ => rfl, fun _ _ => rfl⟩
      refine ih b (t + 1) (s - 1) _ _ (H.fr AX AM) (A.trans AM) (hL.fr (fun o k q => by rw [gI_n (by omega), gI_n (by omega)])) ⟨?_, ?_, ?_, ?_, ?_, ?_⟩ hb (by omega) (by omega)
      · rw [gI_n (by omega), gI_n (by omega)]; exact g1
      · rw [gI_n (by omega), gI_y ⟨rfl, rfl⟩]
      · rw [gI_y ⟨rfl, rfl⟩]
      · rw [gI_n (by omega), gI_n (by omega)]; exact g4
      · rw [gI_n (by omega), gI_y ⟨rfl, rfl⟩]
      · rw [gI_y ⟨rfl, rfl⟩]
    have hs1 : (if (0 : Int32) < nI s - (1 : Int32) then nI s - (1 : Int32) else (0 : Int32)) = nI (s - 1) := hs0
    have mw : (lt1 (gsI m 0 33 ((gI m 0 33) + (1 : Int32))) fun (m17 : gMem) => (if (gI m17 0 34) = 0 then lt1 (gsI m17 0 34 (0 : Int32)) fun (m20 : gMem) => lt1 (nI k + (1 : Int32)) fun (x22 : Int32) => F2 x22 m20 else lt1 (gsI m17 0 34 ((gI m17 0 34) - (1 : Int32))) fun (m20 : gMem) => lt1 (nI k + (1 : Int32)) fun (x22 : Int32) => F2 x22 m20)) = F2 (nI (k + 1)) (gsI (gsI m 0 33 (nI (t + 1))) 0 34 (nI (s - 1))) := by
      simp only [lt1]
      rw [gI_n (by omega), g5, g6, nI_1, nI_1]
      by_cases hz : s = 0
      · subst hz; rfl
      · rw [if_neg (nI_ne0 (by omega) (by omega)), li1, pk_sub (by omega)]
    rcases (show gI m 16 k = -2 ∨ rg (gI m 16 k) 11 from H.1.2.2.2.2.2.2.2.2.2.2.2.2.1 k hk) with hw | ⟨o, ho, hw⟩
    · obtain ⟨a, x', m', b', t', s', r1, r2, r3⟩ := wait
      refine ⟨a, x', m', b', t', s', ?_, ?_, r3⟩
      · rw [hw, lt1_s, x_bes2 b hb]
        simp only [bd_s, jn, lt1]
        rw [← r1, if_pos trivial, g2, gI_n (by omega), g3, hs1, nI_1, nI_1]
      · rw [hw]
        simp only [jn]
        rw [if_pos (by decide), ← r2, ← mw]
    · have hob : o < 12 := by omega
      rw [hw, lt1_s, x_bes1 b hb o hob, m_bes1 b hb o hob]
      by_cases hbs : bes b o = true
      rotate_left
      · have hbs : bes b o = false := by simpa using hbs
        obtain ⟨a, x', m', b', t', s', r1, r2, r3⟩ := wait
        refine ⟨a, x', m', b', t', s', ?_, ?_, r3⟩
        · rw [hbs]
          simp only [bd_s, jn, lt1, Bool.false_eq_true, if_false]
          rw [← r1, if_pos (show nI 0 = 0 from rfl), g2, gI_n (by omega), g3, hs1, nI_1, nI_1]
        · rw [hbs]
          simp only [jn, bd_s, Bool.false_eq_true, if_false]
          rw [if_neg (nI_pos (by omega)), if_pos c3, if_pos (show nI 0 = 0 from rfl), ← r2, ← mw]
      · rw [hbs]
        have AX : agX x (gsI (gsI x 32 6 (nI (t + tmN (wkd (W i))))) 32 5 (nI o)) := ⟨fun o k q => by rw [gI_n (by omega), gI_n (by omega)], fun _ _ _ => rfl, fun _ _ => rfl⟩
        have AM : agM m (gsI (gsI m 0 33 (nI (t + tmN (wkd (W i))))) 0 32 (nI o)) := ⟨fun o k q => by rw [gI_n (by omega), gI_n (by omega)], fun _ _ _ => rfl, fun _ _ => rfl⟩
        have H1 := H.fr AX AM
        have L1 : LT (gsI (gsI x 32 6 (nI (t + tmN (wkd (W i))))) 32 5 (nI o)) (nzO N W m0 i) (depN (curP N m0)) (tmN (wkd (W i))) dr := hL.fr (fun o k q => by rw [gI_n (by omega), gI_n (by omega)])
        have A1 := A.trans AM
        obtain ⟨m1, e1, e2⟩ := H1.msb hn (by rw [AM.1 _ _ (by omega)]; exact enm) hi (b := o) (t := t + tmN (wkd (W i))) (s := s) hob (by omega) (by omega)
        rw [nzO_ag A1, curP_fr (N := N) (A1.1 0 12 (by omega))] at e1
        have hn1 := x_noiseAt (L := L) L1 (b := o) (t := t + tmN (wkd (W i))) hob (by omega)
        rw [nzO_mod] at hn1
        have hd1 := L1.2.2.1 ((t + tmN (wkd (W i))) % 12) (by omega)
        rw [depN_mod] at hd1
        have hmd := x_mod (t := t + tmN (wkd (W i))) (d := 12) (by omega) (by decide) (by decide)
        have hnle : nzO N W m i o (t + tmN (wkd (W i))) ≤ 1030 := (H.mn hn enm hi).le hob _
        rw [nzO_ag A] at hnle
        have hdle := dep_le H.2.2.2.2.1 H.2.2.2.2.2.1 (t + tmN (wkd (W i)))
        rw [curP_fr (N := N) (A.1 0 12 (by omega))] at hdle
        have hsb := x_sb (n := nzO N W m0 i o (t + tmN (wkd (W i)))) (d := depN (curP N m0) (t + tmN (wkd (W i)))) (s := s) (by omega) (by omega) (by omega)
        have hsl := sbN_le (n := nzO N W m0 i o (t + tmN (wkd (W i)))) (d := depN (curP N m0) (t + tmN (wkd (W i)))) hs
        have mt := m_time (m := m) (show i < 4 by omega) q1.2.2.1 q4
        have xt := hL.1
        generalize sbN (nzO N W m0 i o (t + tmN (wkd (W i)))) (depN (curP N m0) (t + tmN (wkd (W i)))) s = sb at *
        have H2 := H1.kp okX17.rfl e2
        have A2 := A1.trans e2.ag
        have f32 : gI m1 0 32 = nI o := by rw [e2.1 _ _ (by omega), gI_y ⟨rfl, rfl⟩]
        have f33 : gI m1 0 33 = nI (t + tmN (wkd (W i))) := by rw [e2.1 _ _ (by omega), gI_n (by omega), gI_y ⟨rfl, rfl⟩]
        have hcg : ∀ z : Nat, GC (gsI (gsI (gsI x 32 6 (nI (t + tmN (wkd (W i))))) 32 5 (nI o)) 32 7 (nI z)) (gsI m1 0 34 (nI z)) o (t + tmN (wkd (W i))) z := fun z => by
          refine ⟨?_, ?_, ?_, ?_, ?_, ?_⟩
          · rw [gI_n (by omega), gI_y ⟨rfl, rfl⟩]
          · rw [gI_n (by omega), gI_n (by omega), gI_y ⟨rfl, rfl⟩]
          · rw [gI_y ⟨rfl, rfl⟩]
          · rw [gI_n (by omega)]; exact f32
          · rw [gI_n (by omega)]; exact f33
          · rw [gI_y ⟨rfl, rfl⟩]
        have AX2 : ∀ z : Nat, agX (gsI (gsI x 32 6 (nI (t + tmN (wkd (W i))))) 32 5 (nI o)) (gsI (gsI (gsI x 32 6 (nI (t + tmN (wkd (W i))))) 32 5 (nI o)) 32 7 (nI z)) := fun z => ⟨fun o k q => gI_n (by omega), fun _ _ _ => rfl, fun _ _ => rfl⟩
        have AM2 : ∀ z : Nat, agM m1 (gsI m1 0 34 (nI z)) := fun z => ⟨fun o k q => gI_n (by omega), fun _ _ _ => rfl, fun _ _ => rfl⟩
        have ovx : ∀ z : Nat, gsI (gsI (gsI (gsI x 32 6 (nI (t + tmN (wkd (W i))))) 32 5 (nI o)) 32 7 (nI sb)) 32 7 (nI z) = gsI (gsI (gsI x 32 6 (nI (t + tmN (wkd (W i))))) 32 5 (nI o)) 32 7 (nI z) := fun z => by
          unfold gsI; congr 1; funext a b; simp only; by_cases h : a = 32 ∧ b = 7 <;> simp [h]
        have ovm : ∀ z : Nat, gsI (gsI m1 0 34 (nI sb)) 0 34 (nI z) = gsI m1 0 34 (nI z) := fun z => by
          unfold gsI; congr 1; funext a b; simp only; by_cases h : a = 0 ∧ b = 34 <;> simp [h]
        by_cases hw3 : sb < 3
        · obtain ⟨a, x', m', b', t', s', r1, r2, r3⟩ := ih o (t + tmN (wkd (W i))) sb _ _ (H2.fr (AX2 sb) (AM2 sb)) (A2.trans (AM2 sb)) (L1.fr (fun o k q => gI_n (by omega))) (hcg sb) hob (by omega) (by omega)
          refine ⟨a, x', m', b', t', s', ?_, ?_, r3⟩
          · rw [← r1]
            simp only [bd_s, jn, lt1, if_true]
            rw [if_neg (show ¬ nI 1 = 0 by decide), g2, xt, nI_add, gI_n (by omega), gI_y ⟨rfl, rfl⟩, hn1]
            simp only [bd_s]
            rw [li12, hmd, bd_s, if_pos (okN (show (t + tmN (wkd (W i))) % 12 < 12 by omega) (by decide)), ixN (by omega), hd1, gI_n (by omega), gI_n (by omega), g3, hsb, bd_s, gI_y ⟨rfl, rfl⟩, if_pos (show nI sb < 3 from nI_lt (b := 3) hw3 (by decide)), nI_1]
          · rw [← r2]
            simp only [bd_s, jn, if_true]
            rw [if_neg (nI_pos (by omega)), if_pos c3, if_neg (show ¬ nI 1 = 0 by decide), mt, bd_s]
            simp only [lt1]
            rw [if_pos c3, g5, nI_add, gI_n (by omega), hw, gI_y ⟨rfl, rfl⟩, gI_n (by omega), gI_y ⟨rfl, rfl⟩, gI_n (by omega), gI_n (by omega), g6, e1, bd2_s, gI_y ⟨rfl, rfl⟩, if_neg (show ¬ (3 : Int32) ≤ nI sb from nI_ge (b := 3) hw3 (by decide)), nI_1]
        · refine ⟨nI k, gsI (gsI (gsI x 32 6 (nI (t + tmN (wkd (W i))))) 32 5 (nI o)) 32 7 (nI 0), gsI m1 0 34 (nI 0), o, t + tmN (wkd (W i)), 0, ?_, ?_, H2.fr (AX2 0) (AM2 0), A2.trans (AM2 0), L1.fr (fun o k q => gI_n (by omega)), hcg 0, Or.inr ⟨k, by omega, rfl⟩⟩
          · simp only [bd_s, jn, lt1, if_true]
            rw [if_neg (show ¬ nI 1 = 0 by decide), g2, xt, nI_add, gI_n (by omega), gI_y ⟨rfl, rfl⟩, hn1]
            simp only [bd_s]
            rw [li12, hmd, bd_s, if_pos (okN (show (t + tmN (wkd (W i))) % 12 < 12 by omega) (by decide)), ixN (by omega), hd1, gI_n (by omega), gI_n (by omega), g3, hsb, bd_s, gI_y ⟨rfl, rfl⟩, if_neg (show ¬ nI sb < 3 from nI_nlt (b := 3) (by omega) (by omega)), li0, ovx]
          · simp only [bd_s, jn, if_true]
            rw [if_neg (nI_pos (by omega)), if_pos c3, if_neg (show ¬ nI 1 = 0 by decide), mt, bd_s]
            simp only [lt1]
            rw [if_pos c3, g5, nI_add, gI_n (by omega), hw, gI_y ⟨rfl, rfl⟩, gI_n (by omega), gI_y ⟨rfl, rfl⟩, gI_n (by omega), gI_n (by omega), g6, e1, bd2_s, gI_y ⟨rfl, rfl⟩, if_pos (show (3 : Int32) ≤ nI sb from nI_le (a := 3) (by omega) (by omega)), li0, ovm]
/-- the whole of one's GOING -/
theorem goes_both (H : Rel L W N x m) {n i b t s dr : Nat} (hn : n ≤ 4) (en : gI m0 0 0 = nI n) (hi : i < n) (A : agM m0 m) (hL : LT x (nzO N W m0 i) (depN (curP N m0)) (tmN (wkd (W i))) dr) (eb : gI m0 4 i = nI b) (hb : b < 12) (ht : t ≤ 20000) (hs : s ≤ 2) : ∃ a x' m' b' t' s', f_X10_follow L x (nI b) (nI t) (nI s) = some (a, x') ∧ f_X12_goesBy m (nI i) (nI t) (nI s) = some (a, m') ∧ Rel L W N x' m' ∧ agM m0 m' ∧ LT x' (nzO N W m0 i) (depN (curP N m0)) (tmN (wkd (W i))) dr ∧ GC x' m' b' t' s' ∧ (a = -5 ∨ ∃ j, j ≤ 12 ∧ a = nI j) := by
  have AX : agX x (gsI (gsI (gsI x 32 5 (nI b)) 32 6 (nI t)) 32 7 (nI s)) := ⟨fun o k q => by rw [gI_n (by omega), gI_n (by omega), gI_n (by omega)], fun _ _ _ => rfl, fun _ _ => rfl⟩
  have AM : agM m (gsI (gsI (gsI m 0 32 (nI b)) 0 33 (nI t)) 0 34 (nI s)) := ⟨fun o k q => by rw [gI_n (by omega), gI_n (by omega), gI_n (by omega)], fun _ _ _ => rfl, fun _ _ => rfl⟩
  obtain ⟨a, x', m', b', t', s', r1, r2, r3⟩ := follow_loop (L := L) (N := N) (dr := dr) hn en hi 12 0 1000 1000 b t s _ _ (H.fr AX AM) (A.trans AM) (hL.fr (fun o k q => by rw [gI_n (by omega), gI_n (by omega), gI_n (by omega)])) ⟨by rw [gI_n (by omega), gI_n (by omega), gI_y ⟨rfl, rfl⟩], by rw [gI_n (by omega), gI_y ⟨rfl, rfl⟩], gI_y ⟨rfl, rfl⟩, by rw [gI_n (by omega), gI_n (by omega), gI_y ⟨rfl, rfl⟩], by rw [gI_n (by omega), gI_y ⟨rfl, rfl⟩], gI_y ⟨rfl, rfl⟩⟩ hb (by omega) hs rfl (by decide) (by decide)
  refine ⟨a, x', m', b', t', s', ?_, ?_, r3⟩
  · rw [← r1]
    unfold f_X10_follow
    simp only [lt1, jn]
    rw [li0]
  · rw [← r2]
    unfold f_X12_goesBy
    rw [if_pos (okN (show i < 4 by omega) (by decide)), ixN (by omega), A.1 _ _ (by omega), eb]
    simp only [lt1, jn]
    rw [li0]
theorem op_goes (H : Rel L W N x m) (p0 p1 : Int32) : Op L W N (f_X11_goes L x p0 p1) (f_X12_goes m p0 p1) := by
  obtain ⟨n, hn, en, hW⟩ := H.2.1
  unfold f_X11_goes f_X12_goes
  rw [x_find H hn en, m_isWalker hn en, m_in0 p1 3 4 rfl]
  rcases p_in p0 n (by omega) with ⟨i, hi, rfl⟩ | h | h
  rotate_left
  · exact ⟨-1, x, m, by simp (disch := omega) only [lt1, jn, bd_s, bd2_s, oc_s, oc_n, li0, li1, li2, li3, li4, li5, li6, li7, li8, li9, li10, li11, li12, li13, li14, li16, li20, li21, li22, li24, li30, li31, li33, li38, li39, li40, li41, li45, li48, li50, li51, li57, li58, li59, li60, li61, li62, li64, li70, li71, li72, li99, li100, li101, li104, li107, li109, li116, li120, li121, li124, li127, li128, li144, li255, li300, li360, li372, li396, li600, li999, li1000, li9960, li9990, li1000000, nI_1, nI_add, pk_sub, pk_mul, pk_div, rem_nI, i_lt, i_le, i_eq, okI, ix, isB, nI_clamp, nI_toInt, tneg, gI_sI, gR_sI, gJ_sI, gI_sR, gR_sR, gJ_sR, gI_sJ, gR_sJ, gJ_sJ, true_and, and_true, false_and, and_false, if_true, if_false, if_pos, if_neg], by simp (disch := omega) only [lt1, jn, bd_s, bd2_s, oc_s, oc_n, li0, li1, li2, li3, li4, li5, li6, li7, li8, li9, li10, li11, li12, li13, li14, li16, li20, li21, li22, li24, li30, li31, li33, li38, li39, li40, li41, li45, li48, li50, li51, li57, li58, li59, li60, li61, li62, li64, li70, li71, li72, li99, li100, li101, li104, li107, li109, li116, li120, li121, li124, li127, li128, li144, li255, li300, li360, li372, li396, li600, li999, li1000, li9960, li9990, li1000000, nI_1, nI_add, pk_sub, pk_mul, pk_div, rem_nI, i_lt, i_le, i_eq, okI, ix, isB, nI_clamp, nI_toInt, tneg, gI_sI, gR_sI, gJ_sI, gI_sR, gR_sR, gJ_sR, gI_sJ, gR_sJ, gJ_sJ, true_and, and_true, false_and, and_false, if_true, if_false, if_pos, if_neg], H⟩
  · exact ⟨-1, x, m, by simp (disch := omega) only [lt1, jn, bd_s, bd2_s, oc_s, oc_n, li0, li1, li2, li3, li4, li5, li6, li7, li8, li9, li10, li11, li12, li13, li14, li16, li20, li21, li22, li24, li30, li31, li33, li38, li39, li40, li41, li45, li48, li50, li51, li57, li58, li59, li60, li61, li62, li64, li70, li71, li72, li99, li100, li101, li104, li107, li109, li116, li120, li121, li124, li127, li128, li144, li255, li300, li360, li372, li396, li600, li999, li1000, li9960, li9990, li1000000, nI_1, nI_add, pk_sub, pk_mul, pk_div, rem_nI, i_lt, i_le, i_eq, okI, ix, isB, nI_clamp, nI_toInt, tneg, gI_sI, gR_sI, gJ_sI, gI_sR, gR_sR, gJ_sR, gI_sJ, gR_sJ, gJ_sJ, true_and, and_true, false_and, and_false, if_true, if_false, if_pos, if_neg], by simp (disch := omega) only [lt1, jn, bd_s, bd2_s, oc_s, oc_n, li0, li1, li2, li3, li4, li5, li6, li7, li8, li9, li10, li11, li12, li13, li14, li16, li20, li21, li22, li24, li30, li31, li33, li38, li39, li40, li41, li45, li48, li50, li51, li57, li58, li59, li60, li61, li62, li64, li70, li71, li72, li99, li100, li101, li104, li107, li109, li116, li120, li121, li124, li127, li128, li144, li255, li300, li360, li372, li396, li600, li999, li1000, li9960, li9990, li1000000, nI_1, nI_add, pk_sub, pk_mul, pk_div, rem_nI, i_lt, i_le, i_eq, okI, ix, isB, nI_clamp, nI_toInt, tneg, gI_sI, gR_sI, gJ_sI, gI_sR, gR_sR, gJ_sR, gI_sJ, gR_sJ, gJ_sJ, true_and, and_true, false_and, and_false, if_true, if_false, if_pos, if_neg], H⟩
  obtain ⟨q1, q2, q3, q4, q5, q6, q7, ⟨b, hb, eb⟩, q9⟩ := hW.1 i hi
  have hw := eq_true q1
  have z3 := q1.1
  rcases p_in p1 4 (by decide) with ⟨a, ha, rfl⟩ | h | h
  rotate_left
  · exact ⟨-1, x, m, by simp (disch := omega) only [lt1, jn, bd_s, bd2_s, oc_s, oc_n, li0, li1, li2, li3, li4, li5, li6, li7, li8, li9, li10, li11, li12, li13, li14, li16, li20, li21, li22, li24, li30, li31, li33, li38, li39, li40, li41, li45, li48, li50, li51, li57, li58, li59, li60, li61, li62, li64, li70, li71, li72, li99, li100, li101, li104, li107, li109, li116, li120, li121, li124, li127, li128, li144, li255, li300, li360, li372, li396, li600, li999, li1000, li9960, li9990, li1000000, nI_1, nI_add, pk_sub, pk_mul, pk_div, rem_nI, i_lt, i_le, i_eq, okI, ix, isB, nI_clamp, nI_toInt, tneg, gI_sI, gR_sI, gJ_sI, gI_sR, gR_sR, gJ_sR, gI_sJ, gR_sJ, gJ_sJ, true_and, and_true, false_and, and_false, if_true, if_false, if_pos, if_neg, hw], by simp (disch := omega) only [lt1, jn, bd_s, bd2_s, oc_s, oc_n, li0, li1, li2, li3, li4, li5, li6, li7, li8, li9, li10, li11, li12, li13, li14, li16, li20, li21, li22, li24, li30, li31, li33, li38, li39, li40, li41, li45, li48, li50, li51, li57, li58, li59, li60, li61, li62, li64, li70, li71, li72, li99, li100, li101, li104, li107, li109, li116, li120, li121, li124, li127, li128, li144, li255, li300, li360, li372, li396, li600, li999, li1000, li9960, li9990, li1000000, nI_1, nI_add, pk_sub, pk_mul, pk_div, rem_nI, i_lt, i_le, i_eq, okI, ix, isB, nI_clamp, nI_toInt, tneg, gI_sI, gR_sI, gJ_sI, gI_sR, gR_sR, gJ_sR, gI_sJ, gR_sJ, gJ_sJ, true_and, and_true, false_and, and_false, if_true, if_false, if_pos, if_neg], H⟩
  · exact ⟨-1, x, m, by simp (disch := omega) only [lt1, jn, bd_s, bd2_s, oc_s, oc_n, li0, li1, li2, li3, li4, li5, li6, li7, li8, li9, li10, li11, li12, li13, li14, li16, li20, li21, li22, li24, li30, li31, li33, li38, li39, li40, li41, li45, li48, li50, li51, li57, li58, li59, li60, li61, li62, li64, li70, li71, li72, li99, li100, li101, li104, li107, li109, li116, li120, li121, li124, li127, li128, li144, li255, li300, li360, li372, li396, li600, li999, li1000, li9960, li9990, li1000000, nI_1, nI_add, pk_sub, pk_mul, pk_div, rem_nI, i_lt, i_le, i_eq, okI, ix, isB, nI_clamp, nI_toInt, tneg, gI_sI, gR_sI, gJ_sI, gI_sR, gR_sR, gJ_sR, gI_sJ, gR_sJ, gJ_sJ, true_and, and_true, false_and, and_false, if_true, if_false, if_pos, if_neg, hw], by simp (disch := omega) only [lt1, jn, bd_s, bd2_s, oc_s, oc_n, li0, li1, li2, li3, li4, li5, li6, li7, li8, li9, li10, li11, li12, li13, li14, li16, li20, li21, li22, li24, li30, li31, li33, li38, li39, li40, li41, li45, li48, li50, li51, li57, li58, li59, li60, li61, li62, li64, li70, li71, li72, li99, li100, li101, li104, li107, li109, li116, li120, li121, li124, li127, li128, li144, li255, li300, li360, li372, li396, li600, li999, li1000, li9960, li9990, li1000000, nI_1, nI_add, pk_sub, pk_mul, pk_div, rem_nI, i_lt, i_le, i_eq, okI, ix, isB, nI_clamp, nI_toInt, tneg, gI_sI, gR_sI, gJ_sI, gI_sR, gR_sR, gJ_sR, gI_sJ, gR_sJ, gJ_sJ, true_and, and_true, false_and, and_false, if_true, if_false, if_pos, if_neg], H⟩
  obtain ⟨t, ht, et⟩ : rg (gI m 0 1) 9992 := H.1.2.2.2.1
  obtain ⟨s, hs, es⟩ : rg (gI m 0 2) 2 := H.1.2.2.2.2.1
  obtain ⟨d, hd, ed⟩ : rg (gI m 0 4) 11 := H.1.2.2.2.2.2.2.1
  have ex4 : gI x 10 4 = gI m 0 1 := H.1.1.2.2.2.1
  have ex5 : gI x 10 5 = gI m 0 2 := H.1.1.2.2.2.2.1
  obtain ⟨x1, e1, H1, L1, k1⟩ := x_learn H hn en hi ed
  obtain ⟨v, x', m', b', t', s', r1, r2, r3, r4, r5, ⟨g1, g2, g3, g4, g5, g6⟩, r6⟩ := goes_both H1 (dr := d) hn en hi agM.rfl L1 eb (by omega) (t := t) (s := s) (by omega) hs
  have w2 : gI x1 (W i) 2 = nI b := by rw [k1 _ _ (by omega) (by omega), q7, eb]
  have w4 : gI x1 10 4 = nI t := by rw [k1 _ _ (by omega) (by omega), ex4, et]
  have w5 : gI x1 10 5 = nI s := by rw [k1 _ _ (by omega) (by omega), ex5, es]
  rcases (show a = 0 ∨ a = 1 ∨ a = 2 ∨ a = 3 by omega) with rfl | rfl | rfl | rfl
  · exact ⟨v, x', m', by simp (disch := omega) only [lt1, jn, bd_s, bd2_s, oc_s, oc_n, li0, li1, li2, li3, li4, li5, li6, li7, li8, li9, li10, li11, li12, li13, li14, li16, li20, li21, li22, li24, li30, li31, li33, li38, li39, li40, li41, li45, li48, li50, li51, li57, li58, li59, li60, li61, li62, li64, li70, li71, li72, li99, li100, li101, li104, li107, li109, li116, li120, li121, li124, li127, li128, li144, li255, li300, li360, li372, li396, li600, li999, li1000, li9960, li9990, li1000000, nI_1, nI_add, pk_sub, pk_mul, pk_div, rem_nI, i_lt, i_le, i_eq, okI, ix, isB, nI_clamp, nI_toInt, tneg, gI_sI, gR_sI, gJ_sI, gI_sR, gR_sR, gJ_sR, gI_sJ, gR_sJ, gJ_sJ, true_and, and_true, false_and, and_false, if_true, if_false, if_pos, if_neg, hw, e1, w2, w4, w5, r1], by simp (disch := omega) only [lt1, jn, bd_s, bd2_s, oc_s, oc_n, li0, li1, li2, li3, li4, li5, li6, li7, li8, li9, li10, li11, li12, li13, li14, li16, li20, li21, li22, li24, li30, li31, li33, li38, li39, li40, li41, li45, li48, li50, li51, li57, li58, li59, li60, li61, li62, li64, li70, li71, li72, li99, li100, li101, li104, li107, li109, li116, li120, li121, li124, li127, li128, li144, li255, li300, li360, li372, li396, li600, li999, li1000, li9960, li9990, li1000000, nI_1, nI_add, pk_sub, pk_mul, pk_div, rem_nI, i_lt, i_le, i_eq, okI, ix, isB, nI_clamp, nI_toInt, tneg, gI_sI, gR_sI, gJ_sI, gI_sR, gR_sR, gJ_sR, gI_sJ, gR_sJ, gJ_sJ, true_and, and_true, false_and, and_false, if_true, if_false, if_pos, if_neg, et, es, r2], r3⟩
  · exact ⟨nI b', x', m', by simp (disch := omega) only [lt1, jn, bd_s, bd2_s, oc_s, oc_n, li0, li1, li2, li3, li4, li5, li6, li7, li8, li9, li10, li11, li12, li13, li14, li16, li20, li21, li22, li24, li30, li31, li33, li38, li39, li40, li41, li45, li48, li50, li51, li57, li58, li59, li60, li61, li62, li64, li70, li71, li72, li99, li100, li101, li104, li107, li109, li116, li120, li121, li124, li127, li128, li144, li255, li300, li360, li372, li396, li600, li999, li1000, li9960, li9990, li1000000, nI_1, nI_add, pk_sub, pk_mul, pk_div, rem_nI, i_lt, i_le, i_eq, okI, ix, isB, nI_clamp, nI_toInt, tneg, gI_sI, gR_sI, gJ_sI, gI_sR, gR_sR, gJ_sR, gI_sJ, gR_sJ, gJ_sJ, true_and, and_true, false_and, and_false, if_true, if_false, if_pos, if_neg, hw, e1, w2, w4, w5, r1, g1], by simp (disch := omega) only [lt1, jn, bd_s, bd2_s, oc_s, oc_n, li0, li1, li2, li3, li4, li5, li6, li7, li8, li9, li10, li11, li12, li13, li14, li16, li20, li21, li22, li24, li30, li31, li33, li38, li39, li40, li41, li45, li48, li50, li51, li57, li58, li59, li60, li61, li62, li64, li70, li71, li72, li99, li100, li101, li104, li107, li109, li116, li120, li121, li124, li127, li128, li144, li255, li300, li360, li372, li396, li600, li999, li1000, li9960, li9990, li1000000, nI_1, nI_add, pk_sub, pk_mul, pk_div, rem_nI, i_lt, i_le, i_eq, okI, ix, isB, nI_clamp, nI_toInt, tneg, gI_sI, gR_sI, gJ_sI, gI_sR, gR_sR, gJ_sR, gI_sJ, gR_sJ, gJ_sJ, true_and, and_true, false_and, and_false, if_true, if_false, if_pos, if_neg, et, es, r2, g4], r3⟩
  · exact ⟨nI t', x', m', by simp (disch := omega) only [lt1, jn, bd_s, bd2_s, oc_s, oc_n, li0, li1, li2, li3, li4, li5, li6, li7, li8, li9, li10, li11, li12, li13, li14, li16, li20, li21, li22, li24, li30, li31, li33, li38, li39, li40, li41, li45, li48, li50, li51, li57, li58, li59, li60, li61, li62, li64, li70, li71, li72, li99, li100, li101, li104, li107, li109, li116, li120, li121, li124, li127, li128, li144, li255, li300, li360, li372, li396, li600, li999, li1000, li9960, li9990, li1000000, nI_1, nI_add, pk_sub, pk_mul, pk_div, rem_nI, i_lt, i_le, i_eq, okI, ix, isB, nI_clamp, nI_toInt, tneg, gI_sI, gR_sI, gJ_sI, gI_sR, gR_sR, gJ_sR, gI_sJ, gR_sJ, gJ_sJ, true_and, and_true, false_and, and_false, if_true, if_false, if_pos, if_neg, hw, e1, w2, w4, w5, r1, g2], by simp (disch := omega) only [lt1, jn, bd_s, bd2_s, oc_s, oc_n, li0, li1, li2, li3, li4, li5, li6, li7, li8, li9, li10, li11, li12, li13, li14, li16, li20, li21, li22, li24, li30, li31, li33, li38, li39, li40, li41, li45, li48, li50, li51, li57, li58, li59, li60, li61, li62, li64, li70, li71, li72, li99, li100, li101, li104, li107, li109, li116, li120, li121, li124, li127, li128, li144, li255, li300, li360, li372, li396, li600, li999, li1000, li9960, li9990, li1000000, nI_1, nI_add, pk_sub, pk_mul, pk_div, rem_nI, i_lt, i_le, i_eq, okI, ix, isB, nI_clamp, nI_toInt, tneg, gI_sI, gR_sI, gJ_sI, gI_sR, gR_sR, gJ_sR, gI_sJ, gR_sJ, gJ_sJ, true_and, and_true, false_and, and_false, if_true, if_false, if_pos, if_neg, et, es, r2, g5], r3⟩
  · exact ⟨nI s', x', m', by simp (disch := omega) only [lt1, jn, bd_s, bd2_s, oc_s, oc_n, li0, li1, li2, li3, li4, li5, li6, li7, li8, li9, li10, li11, li12, li13, li14, li16, li20, li21, li22, li24, li30, li31, li33, li38, li39, li40, li41, li45, li48, li50, li51, li57, li58, li59, li60, li61, li62, li64, li70, li71, li72, li99, li100, li101, li104, li107, li109, li116, li120, li121, li124, li127, li128, li144, li255, li300, li360, li372, li396, li600, li999, li1000, li9960, li9990, li1000000, nI_1, nI_add, pk_sub, pk_mul, pk_div, rem_nI, i_lt, i_le, i_eq, okI, ix, isB, nI_clamp, nI_toInt, tneg, gI_sI, gR_sI, gJ_sI, gI_sR, gR_sR, gJ_sR, gI_sJ, gR_sJ, gJ_sJ, true_and, and_true, false_and, and_false, if_true, if_false, if_pos, if_neg, hw, e1, w2, w4, w5, r1, g3], by simp (disch := omega) only [lt1, jn, bd_s, bd2_s, oc_s, oc_n, li0, li1, li2, li3, li4, li5, li6, li7, li8, li9, li10, li11, li12, li13, li14, li16, li20, li21, li22, li24, li30, li31, li33, li38, li39, li40, li41, li45, li48, li50, li51, li57, li58, li59, li60, li61, li62, li64, li70, li71, li72, li99, li100, li101, li104, li107, li109, li116, li120, li121, li124, li127, li128, li144, li255, li300, li360, li372, li396, li600, li999, li1000, li9960, li9990, li1000000, nI_1, nI_add, pk_sub, pk_mul, pk_div, rem_nI, i_lt, i_le, i_eq, okI, ix, isB, nI_clamp, nI_toInt, tneg, gI_sI, gR_sI, gJ_sI, gI_sR, gR_sR, gJ_sR, gI_sJ, gR_sJ, gJ_sJ, true_and, and_true, false_and, and_false, if_true, if_false, if_pos, if_neg, et, es, r2, g6], r3⟩
theorem odds_loop {n i b t s dr : Nat} (hn : n ≤ 4) (en : gI m0 0 0 = nI n) (hi : i < n) (eb : gI m0 4 i = nI b) (hb : b < 12) (et : gI m0 0 1 = nI t) (ht : t ≤ 9992) (es : gI m0 0 2 = nI s) (hs : s ≤ 2) (j1 j2 : Int32 → gMem → Option (Int64 × gMem)) (hj : ∀ (g : Nat) (x m : gMem), Rel L W N x m → g ≤ 12 → Op L W N (j1 (nI g) x) (j2 (nI g) m)) : ∀ (d k f1 f2 g : Nat) (x m : gMem), Rel L W N x m → agM m0 m → LT x (nzO N W m0 i) (depN (curP N m0)) (tmN (wkd (W i))) dr → d + k = 12 → d < f1 → d < f2 → g ≤ k → Op L W N (lq3 (s_X11_odds_41 j1 L (W i)) f1 (nI g) (nI k) x) (lq3 (s_X12_odds_27 j2 (nI i)) f2 (nI g) (nI k) m)
  | 0, k, f1, f2, g, x, m, H, A, hL, h1, h2, h3, h4 => by
    obtain ⟨f1, rfl⟩ : ∃ f, f1 = f + 1 := ⟨f1 - 1, by omega⟩
    obtain ⟨f2, rfl⟩ : ∃ f, f2 = f + 1 := ⟨f2 - 1, by omega⟩
    have := hj g x m H (by omega)
    rw [lq3_u, lq3_u]
    unfold s_X11_odds_41 s_X12_odds_27
    have c : (12 : Int32) ≤ nI k := nI_le (a := 12) (by omega) (by omega)
    rw [if_pos c, if_pos c]
    exact this
  | d + 1, k, f1, f2, g, x, m, H, A, hL, h1, h2, h3, h4 => by
    obtain ⟨f1, rfl⟩ : ∃ f, f1 = f + 1 := ⟨f1 - 1, by omega⟩
    obtain ⟨f2, rfl⟩ : ∃ f, f2 = f + 1 := ⟨f2 - 1, by omega⟩
    obtain ⟨v, x', m', b', t', s', r1, r2, r3, r4, r5, -, r6⟩ := goes_both H (dr := dr) hn en hi A hL eb hb (t := t + k) (s := s - k) (by omega) (by omega)
    have ih := fun g' hg' => odds_loop hn en hi eb hb et ht es hs j1 j2 hj d (k + 1) f1 f2 g' x' m' r3 r4 r5 (by omega) (by omega) (by omega) hg'
    have enm : gI m 0 0 = nI n := (A.1 _ _ (by omega)).trans en
    obtain ⟨q1, q2, q3, q4, q5, q6, q7, q8, q9⟩ := (H.2.1.w enm hn).1 i hi
    have ex4 : gI x 10 4 = gI m 0 1 := H.1.1.2.2.2.1
    have ex5 : gI x 10 5 = gI m 0 2 := H.1.1.2.2.2.2.1
    have etm := (A.1 0 1 (by omega)).trans et
    have esm := (A.1 0 2 (by omega)).trans es
    have ebm := (A.1 4 i (by omega)).trans eb
    have e0 := sub0 (s := s) (k := k) (by omega) (by omega)
    rw [lq3_u, lq3_u]
    generalize lq3 (s_X11_odds_41 j1 L (W i)) f1 = F1 at ih ⊢
    generalize lq3 (s_X12_odds_27 j2 (nI i)) f2 = F2 at ih ⊢
    unfold s_X11_odds_41 s_X12_odds_27
    have c : ¬ (12 : Int32) ≤ nI k := nI_ge (b := 12) (by omega) (by decide)
    rw [if_neg c, if_neg c, q7, ebm, ex4, ex5, etm, esm, e0, nI_add, r1]
    have hm : ∀ K : Int32 → Option (Int64 × gMem), (if nI k ≤ nI s then K (nI s - nI k) else K 0) = K (nI (s - k)) := by
      intro K
      by_cases hk : k ≤ s
      · rw [if_pos (nI_le hk (by omega)), pk_sub hk]
      · rw [if_neg (nI_ge (by omega) (by omega)), show s - k = 0 by omega]; rfl
    simp only [jn, bd2_s]
    rw [hm (fun x9 => bd2 (f_X12_goesBy m (nI i) (nI (t + k)) x9) fun (x11 : Int32) (m10 : gMem) => if 0 ≤ x11 then lt1 (nI g + 0) fun (x14 : Int32) => lt1 (nI k + 1) fun (x15 : Int32) => F2 x14 x15 m10 else lt1 (nI g + 1) fun (x14 : Int32) => lt1 (nI k + 1) fun (x15 : Int32) => F2 x14 x15 m10), r2]
    simp only [lt1, bd2_s]
    rcases r6 with rfl | ⟨j, hj1, rfl⟩
    · rw [if_pos rfl, if_neg (by decide), nI_1, nI_1]
      exact ih (g + 1) (by omega)
    · have c2 : ¬ nI j = -5 := by simp (disch := omega) only [lt1, jn, bd_s, bd2_s, oc_s, oc_n, li0, li1, li2, li3, li4, li5, li6, li7, li8, li9, li10, li11, li12, li13, li14, li16, li20, li21, li22, li24, li30, li31, li33, li38, li39, li40, li41, li45, li48, li50, li51, li57, li58, li59, li60, li61, li62, li64, li70, li71, li72, li99, li100, li101, li104, li107, li109, li116, li120, li121, li124, li127, li128, li144, li255, li300, li360, li372, li396, li600, li999, li1000, li9960, li9990, li1000000, nI_1, nI_add, pk_sub, pk_mul, pk_div, rem_nI, i_lt, i_le, i_eq, okI, ix, isB, nI_clamp, nI_toInt, tneg, gI_sI, gR_sI, gJ_sI, gI_sR, gR_sR, gJ_sR, gI_sJ, gR_sJ, gJ_sJ, true_and, and_true, false_and, and_false, if_true, if_false, if_pos, if_neg]; omega
      rw [if_neg c2, if_pos (nI_pos' (by omega)), nI_1, li0, nI_add, Nat.add_zero]
      exact ih g (by omega)
theorem op_odds (H : Rel L W N x m) (p0 p1 : Int32) : Op L W N (f_X11_odds L x p0 p1) (f_X12_odds m p0 p1) := by
  obtain ⟨n, hn, en, hW⟩ := H.2.1
  unfold f_X11_odds f_X12_odds
  rw [x_find H hn en, m_isWalker hn en, m_in0 p1 1 2 rfl]
  rcases p_in p0 n (by omega) with ⟨i, hi, rfl⟩ | h | h
  rotate_left
  · exact ⟨-9223372036854775808, x, m, by simp (disch := omega) only [lt1, jn, bd_s, bd2_s, oc_s, oc_n, li0, li1, li2, li3, li4, li5, li6, li7, li8, li9, li10, li11, li12, li13, li14, li16, li20, li21, li22, li24, li30, li31, li33, li38, li39, li40, li41, li45, li48, li50, li51, li57, li58, li59, li60, li61, li62, li64, li70, li71, li72, li99, li100, li101, li104, li107, li109, li116, li120, li121, li124, li127, li128, li144, li255, li300, li360, li372, li396, li600, li999, li1000, li9960, li9990, li1000000, nI_1, nI_add, pk_sub, pk_mul, pk_div, rem_nI, i_lt, i_le, i_eq, okI, ix, isB, nI_clamp, nI_toInt, tneg, gI_sI, gR_sI, gJ_sI, gI_sR, gR_sR, gJ_sR, gI_sJ, gR_sJ, gJ_sJ, true_and, and_true, false_and, and_false, if_true, if_false, if_pos, if_neg], by simp (disch := omega) only [lt1, jn, bd_s, bd2_s, oc_s, oc_n, li0, li1, li2, li3, li4, li5, li6, li7, li8, li9, li10, li11, li12, li13, li14, li16, li20, li21, li22, li24, li30, li31, li33, li38, li39, li40, li41, li45, li48, li50, li51, li57, li58, li59, li60, li61, li62, li64, li70, li71, li72, li99, li100, li101, li104, li107, li109, li116, li120, li121, li124, li127, li128, li144, li255, li300, li360, li372, li396, li600, li999, li1000, li9960, li9990, li1000000, nI_1, nI_add, pk_sub, pk_mul, pk_div, rem_nI, i_lt, i_le, i_eq, okI, ix, isB, nI_clamp, nI_toInt, tneg, gI_sI, gR_sI, gJ_sI, gI_sR, gR_sR, gJ_sR, gI_sJ, gR_sJ, gJ_sJ, true_and, and_true, false_and, and_false, if_true, if_false, if_pos, if_neg], H⟩
  · exact ⟨-9223372036854775808, x, m, by simp (disch := omega) only [lt1, jn, bd_s, bd2_s, oc_s, oc_n, li0, li1, li2, li3, li4, li5, li6, li7, li8, li9, li10, li11, li12, li13, li14, li16, li20, li21, li22, li24, li30, li31, li33, li38, li39, li40, li41, li45, li48, li50, li51, li57, li58, li59, li60, li61, li62, li64, li70, li71, li72, li99, li100, li101, li104, li107, li109, li116, li120, li121, li124, li127, li128, li144, li255, li300, li360, li372, li396, li600, li999, li1000, li9960, li9990, li1000000, nI_1, nI_add, pk_sub, pk_mul, pk_div, rem_nI, i_lt, i_le, i_eq, okI, ix, isB, nI_clamp, nI_toInt, tneg, gI_sI, gR_sI, gJ_sI, gI_sR, gR_sR, gJ_sR, gI_sJ, gR_sJ, gJ_sJ, true_and, and_true, false_and, and_false, if_true, if_false, if_pos, if_neg], by simp (disch := omega) only [lt1, jn, bd_s, bd2_s, oc_s, oc_n, li0, li1, li2, li3, li4, li5, li6, li7, li8, li9, li10, li11, li12, li13, li14, li16, li20, li21, li22, li24, li30, li31, li33, li38, li39, li40, li41, li45, li48, li50, li51, li57, li58, li59, li60, li61, li62, li64, li70, li71, li72, li99, li100, li101, li104, li107, li109, li116, li120, li121, li124, li127, li128, li144, li255, li300, li360, li372, li396, li600, li999, li1000, li9960, li9990, li1000000, nI_1, nI_add, pk_sub, pk_mul, pk_div, rem_nI, i_lt, i_le, i_eq, okI, ix, isB, nI_clamp, nI_toInt, tneg, gI_sI, gR_sI, gJ_sI, gI_sR, gR_sR, gJ_sR, gI_sJ, gR_sJ, gJ_sJ, true_and, and_true, false_and, and_false, if_true, if_false, if_pos, if_neg], H⟩
  obtain ⟨q1, q2, q3, q4, q5, q6, q7, ⟨b, hb, eb⟩, q9⟩ := hW.1 i hi
  have hw := eq_true q1
  rcases p_in p1 2 (by decide) with ⟨p, hp, rfl⟩ | h | h
  rotate_left
  · exact ⟨-9223372036854775808, x, m, by simp (disch := omega) only [lt1, jn, bd_s, bd2_s, oc_s, oc_n, li0, li1, li2, li3, li4, li5, li6, li7, li8, li9, li10, li11, li12, li13, li14, li16, li20, li21, li22, li24, li30, li31, li33, li38, li39, li40, li41, li45, li48, li50, li51, li57, li58, li59, li60, li61, li62, li64, li70, li71, li72, li99, li100, li101, li104, li107, li109, li116, li120, li121, li124, li127, li128, li144, li255, li300, li360, li372, li396, li600, li999, li1000, li9960, li9990, li1000000, nI_1, nI_add, pk_sub, pk_mul, pk_div, rem_nI, i_lt, i_le, i_eq, okI, ix, isB, nI_clamp, nI_toInt, tneg, gI_sI, gR_sI, gJ_sI, gI_sR, gR_sR, gJ_sR, gI_sJ, gR_sJ, gJ_sJ, true_and, and_true, false_and, and_false, if_true, if_false, if_pos, if_neg, hw], by simp (disch := omega) only [lt1, jn, bd_s, bd2_s, oc_s, oc_n, li0, li1, li2, li3, li4, li5, li6, li7, li8, li9, li10, li11, li12, li13, li14, li16, li20, li21, li22, li24, li30, li31, li33, li38, li39, li40, li41, li45, li48, li50, li51, li57, li58, li59, li60, li61, li62, li64, li70, li71, li72, li99, li100, li101, li104, li107, li109, li116, li120, li121, li124, li127, li128, li144, li255, li300, li360, li372, li396, li600, li999, li1000, li9960, li9990, li1000000, nI_1, nI_add, pk_sub, pk_mul, pk_div, rem_nI, i_lt, i_le, i_eq, okI, ix, isB, nI_clamp, nI_toInt, tneg, gI_sI, gR_sI, gJ_sI, gI_sR, gR_sR, gJ_sR, gI_sJ, gR_sJ, gJ_sJ, true_and, and_true, false_and, and_false, if_true, if_false, if_pos, if_neg], H⟩
  · exact ⟨-9223372036854775808, x, m, by simp (disch := omega) only [lt1, jn, bd_s, bd2_s, oc_s, oc_n, li0, li1, li2, li3, li4, li5, li6, li7, li8, li9, li10, li11, li12, li13, li14, li16, li20, li21, li22, li24, li30, li31, li33, li38, li39, li40, li41, li45, li48, li50, li51, li57, li58, li59, li60, li61, li62, li64, li70, li71, li72, li99, li100, li101, li104, li107, li109, li116, li120, li121, li124, li127, li128, li144, li255, li300, li360, li372, li396, li600, li999, li1000, li9960, li9990, li1000000, nI_1, nI_add, pk_sub, pk_mul, pk_div, rem_nI, i_lt, i_le, i_eq, okI, ix, isB, nI_clamp, nI_toInt, tneg, gI_sI, gR_sI, gJ_sI, gI_sR, gR_sR, gJ_sR, gI_sJ, gR_sJ, gJ_sJ, true_and, and_true, false_and, and_false, if_true, if_false, if_pos, if_neg, hw], by simp (disch := omega) only [lt1, jn, bd_s, bd2_s, oc_s, oc_n, li0, li1, li2, li3, li4, li5, li6, li7, li8, li9, li10, li11, li12, li13, li14, li16, li20, li21, li22, li24, li30, li31, li33, li38, li39, li40, li41, li45, li48, li50, li51, li57, li58, li59, li60, li61, li62, li64, li70, li71, li72, li99, li100, li101, li104, li107, li109, li116, li120, li121, li124, li127, li128, li144, li255, li300, li360, li372, li396, li600, li999, li1000, li9960, li9990, li1000000, nI_1, nI_add, pk_sub, pk_mul, pk_div, rem_nI, i_lt, i_le, i_eq, okI, ix, isB, nI_clamp, nI_toInt, tneg, gI_sI, gR_sI, gJ_sI, gI_sR, gR_sR, gJ_sR, gI_sJ, gR_sJ, gJ_sJ, true_and, and_true, false_and, and_false, if_true, if_false, if_pos, if_neg], H⟩
  obtain ⟨t, ht, et⟩ : rg (gI m 0 1) 9992 := H.1.2.2.2.1
  obtain ⟨s, hs, es⟩ : rg (gI m 0 2) 2 := H.1.2.2.2.2.1
  obtain ⟨d, hd, ed⟩ : rg (gI m 0 4) 11 := H.1.2.2.2.2.2.2.1
  obtain ⟨x1, e1, H1, L1, k1⟩ := x_learn H hn en hi ed
  have main := odds_loop (L := L) (W := W) (N := N) hn en hi eb (by omega) et ht es hs (fun (x15 : Int32) (m16 : gMem) => bd (f_X11_fraction x15 (12 : Int32) (nI p)) fun (y17 : Int64) => some (y17, m16)) (fun (x16 : Int32) (m17 : gMem) => bd (f_X12_lowest x16 (12 : Int32) (nI p)) fun (y18 : Int64) => some (y18, m17)) (fun g x m H hg => by
    obtain ⟨v, v1, v2⟩ := frac (above := g) (below := 12) (by omega) (by omega) (by omega) (nI p)
    have v1 : f_X11_fraction (nI g) 12 (nI p) = some v := v1
    have v2 : f_X12_lowest (nI g) 12 (nI p) = some v := v2
    exact ⟨v, x, m, by simp only [v1, bd_s], by simp only [v2, bd_s], H⟩) 12 0 1000 1000 0 x1 m H1 agM.rfl L1 rfl (by decide) (by decide) (by omega)
  obtain ⟨a, x', m', r1, r2, r3⟩ := main
  refine ⟨a, x', m', ?_, ?_, r3⟩
  · rw [← r1]
    generalize hF : (fun (x15 : Int32) (m16 : gMem) => bd (f_X11_fraction x15 (12 : Int32) (nI p)) fun (y17 : Int64) => some (y17, m16)) = F
    simp (disch := omega) only [lt1, jn, bd_s, bd2_s, oc_s, oc_n, li0, li1, li2, li3, li4, li5, li6, li7, li8, li9, li10, li11, li12, li13, li14, li16, li20, li21, li22, li24, li30, li31, li33, li38, li39, li40, li41, li45, li48, li50, li51, li57, li58, li59, li60, li61, li62, li64, li70, li71, li72, li99, li100, li101, li104, li107, li109, li116, li120, li121, li124, li127, li128, li144, li255, li300, li360, li372, li396, li600, li999, li1000, li9960, li9990, li1000000, nI_1, nI_add, pk_sub, pk_mul, pk_div, rem_nI, i_lt, i_le, i_eq, okI, ix, isB, nI_clamp, nI_toInt, tneg, gI_sI, gR_sI, gJ_sI, gI_sR, gR_sR, gJ_sR, gI_sJ, gR_sJ, gJ_sJ, true_and, and_true, false_and, and_false, if_true, if_false, if_pos, if_neg, hw, e1]
  · rw [← r2]
    generalize hF : (fun (x16 : Int32) (m17 : gMem) => bd (f_X12_lowest x16 (12 : Int32) (nI p)) fun (y18 : Int64) => some (y18, m17)) = F
    simp (disch := omega) only [lt1, jn, bd_s, bd2_s, oc_s, oc_n, li0, li1, li2, li3, li4, li5, li6, li7, li8, li9, li10, li11, li12, li13, li14, li16, li20, li21, li22, li24, li30, li31, li33, li38, li39, li40, li41, li45, li48, li50, li51, li57, li58, li59, li60, li61, li62, li64, li70, li71, li72, li99, li100, li101, li104, li107, li109, li116, li120, li121, li124, li127, li128, li144, li255, li300, li360, li372, li396, li600, li999, li1000, li9960, li9990, li1000000, nI_1, nI_add, pk_sub, pk_mul, pk_div, rem_nI, i_lt, i_le, i_eq, okI, ix, isB, nI_clamp, nI_toInt, tneg, gI_sI, gR_sI, gJ_sI, gI_sR, gR_sR, gJ_sR, gI_sJ, gR_sJ, gJ_sJ, true_and, and_true, false_and, and_false, if_true, if_false, if_pos, if_neg]
end G1

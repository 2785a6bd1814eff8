/-! the soonest way out: both alike -/
section W3
variable {x m x' m' m0 : gMem} {N : Nat → List cls} {i kd v T : Nat} {row cr : Nat → Nat}
theorem rel_step {C T : Nat → Nat} {tm g b dt : Nat} {nzf : Nat → Nat} (h8 : ∀ k, C k < 8) (hr : ∀ k, lw3 (C k) = T k) (hb : b < 12) (htm : 1 ≤ tm ∧ tm ≤ 2) (h0 : C (g * 12 + b) ≠ 0) (k : Nat) : lw3 (trC (styC C g b) g b (g + tm) nzf dt 12 k) = spT T tm g b nzf dt k := by
  have hs : T (g * 12 + b) < 3 := by
    have := lw_0 _ (h8 (g * 12 + b))
    rw [hr] at this
    have h3 : T (g * 12 + b) ≠ 3 := fun e => h0 (this.1.mp e)
    have := this.2
    omega
  have hsrc : styC C g b (g * 12 + b) = C (g * 12 + b) := by unfold styC; rw [if_neg (by omega)]
  have hTk : T k ≤ 3 := by rw [← hr]; exact (lw_0 _ (h8 k)).2
  unfold spT
  rw [if_neg (by omega)]
  unfold trC
  rw [hsrc]
  by_cases hk : k = (g + 1) * 12 + b
  · have hkm : k % 12 = b := by omega
    rw [if_pos hk, if_neg (fun q => by rw [hkm, bes_bb b hb] at q; exact absurd q.2.2.1 (by decide))]
    unfold styC
    rw [if_pos (by omega), (lw_stay _ (h8 k) _ (h8 _)).1, if_neg h0, hr, hr]
  · rw [if_neg hk]
    have hst : styC C g b k = C k := by unfold styC; rw [if_neg (by omega)]
    rw [hst]
    by_cases hc : k / 12 = g + tm ∧ bes b (k % 12) = true
    · rw [if_pos hc]
      have hl := lw_c _ (h8 k) _ (h8 (g * 12 + b)) h0
      by_cases hn : nzf (k % 12) ≤ dt
      · rw [if_pos ⟨hc.1, Nat.mod_lt _ (by decide), hc.2, hn⟩]
        unfold sbN img
        rw [if_pos hn]
        by_cases h2 : 2 * nzf (k % 12) ≤ dt
        · rw [if_pos h2, if_pos h2, hl.1.1, hr, hr]
        · rw [if_neg h2, if_neg h2, hl.1.2, hr, hr]
      · rw [if_neg (fun q => hn q.2.2.2)]
        unfold sbN
        rw [if_neg hn, hr, Nat.min_eq_left hTk]
    · rw [if_neg hc, if_neg (fun q => hc ⟨q.1, q.2.2.1⟩), hr]
theorem styC_8 {C : Nat → Nat} (h8 : ∀ k, C k < 8) {g b : Nat} (k : Nat) : styC C g b k < 8 := by
  unfold styC
  split
  · exact (lw_stay _ (h8 k) _ (h8 _)).2
  · exact h8 k
theorem m_treads (M : MN x m N i kd v row cr T) {C : Nat → Nat} (h : CT m C) (h8 : ∀ k, C k < 8) {g b t0 dd : Nat} (hdd : gI m 0 29 = nI dd) (hd2 : dd ≤ 30) (hg : g ≤ 30) (hb : b < 12) (ht0 : t0 ≤ 30000) : ∃ m', f_X12_treads m (nI i) (nI g) (nI b) (nI t0) = some m' ∧ ok1517 m m' ∧ CT m' (trC C g b (g + tmN kd) (fun o => nzG (curP N m) kd v row cr T o (t0 + (g + tmN kd))) (depN (curP N m) (t0 + (g + tmN kd)) + dd) 12) := by
  have htm := tmN_le kd
  have mt := m_time (m := m) M.2.2.1 M.2.2.2.1 M.2.2.2.2.2.2.1
  obtain ⟨m1, e1, e2⟩ := m_depth M.1 M.2.1 (t := t0 + (g + tmN kd)) (by omega) hdd
  have hdl := dep_le M.1 M.2.1 (t0 + (g + tmN kd))
  have h1 : CT m1 (trC C g b (g + tmN kd) (fun o => nzG (curP N m) kd v row cr T o (t0 + (g + tmN kd))) (depN (curP N m) (t0 + (g + tmN kd)) + dd) 0) := fun k hk => by
    rw [e2.1 _ _ (by decide), h k hk]
    congr 1
    unfold trC
    rw [if_neg (by omega)]
  obtain ⟨m', a1, a2, a3⟩ := m_tr_loop M h8 (g := g) (b := b) (t0 := t0) (dt := depN (curP N m) (t0 + (g + tmN kd)) + dd) hg hb ht0 (by omega) 12 0 1000 m1 e2.to h1 rfl (by decide)
  refine ⟨m', ?_, a2, a3⟩
  unfold f_X12_treads
  rw [mt, bd_s, lt1_s, nI_add, nI_add, e1, bd2_s, Nat.add_comm dd, li0, a1]
theorem m_sweep (M : MN x m0 N i kd v row cr T) {g t0 dd : Nat} (hdd : gI m0 0 29 = nI dd) (hd2 : dd ≤ 30) (hg : g ≤ 30) (ht0 : t0 ≤ 30000) (J : gMem → Option (Int32 × gMem)) {Tb : Nat → Nat} : ∀ (d b fuel : Nat) (m : gMem) (C : Nat → Nat), ok1517 m0 m → CT m C → (∀ k, C k < 8) → (∀ k, lw3 (C k) = swT Tb (tmN kd) g (fun o => nzG (curP N m0) kd v row cr T o (t0 + g + tmN kd)) (depN (curP N m0) (t0 + g + tmN kd) + dd) b k) → d + b = 12 → d < fuel → ∃ m' C', lq2 (s_X12_outBy_69 J (nI g) (nI i) (nI t0)) fuel (nI b) m = J m' ∧ ok1517 m0 m' ∧ CT m' C' ∧ (∀ k, C' k < 8) ∧ ∀ k, lw3 (C' k) = swT Tb (tmN kd) g (fun o => nzG (curP N m0) kd v row cr T o (t0 + g + tmN kd)) (depN (curP N m0) (t0 + g + tmN kd) + dd) 12 k
  | 0, b, fuel, m, C, hm, h, h8, hr, h1, h2 => by
    obtain ⟨f, rfl⟩ : ∃ f, fuel = f + 1 := ⟨fuel - 1, by omega⟩
    have hb : b = 12 := by omega
    subst hb
    refine ⟨m, C, ?_, hm, h, h8, hr⟩
    rw [lq2_u]
    generalize lq2 (s_X12_outBy_69 J (nI g) (nI i) (nI t0)) f = F
    unfold s_X12_outBy_69
    rw [if_pos (by decide)]
  | d + 1, b, fuel, m, C, hm, h, h8, hr, h1, h2 => by
    obtain ⟨f, rfl⟩ : ∃ f, fuel = f + 1 := ⟨fuel - 1, by omega⟩
    have hb : b < 12 := by omega
    have htm := tmN_le kd
    have ih := fun (m1 : gMem) (C1 : Nat → Nat) (hm1 : ok1517 m0 m1) (h' : CT m1 C1) (h8' : ∀ k, C1 k < 8) (hr' : ∀ k, lw3 (C1 k) = swT Tb (tmN kd) g (fun o => nzG (curP N m0) kd v row cr T o (t0 + g + tmN kd)) (depN (curP N m0) (t0 + g + tmN kd) + dd) (b + 1) k) => m_sweep M hdd hd2 hg ht0 J (Tb := Tb) d (b + 1) f m1 C1 hm1 h' h8' hr' (by omega) (by omega)
    have e := h (g * 12 + b) (by omega)
    rw [lq2_u]
    generalize lq2 (s_X12_outBy_69 J (nI g) (nI i) (nI t0)) f = F at ih ⊢
    unfold s_X12_outBy_69
    rw [if_neg (show ¬ (12 : Int32) ≤ nI b from nI_ge (b := 12) hb (by decide)), li12, pk_mul, nI_add, Nat.mul_comm 12 g, if_pos (okN (show g * 12 + b < 396 by omega) (by decide)), ixN (show g * 12 + b < 2 ^ 31 by omega), e]
    simp only [jn]
    by_cases h0 : C (g * 12 + b) = 0
    · obtain ⟨m', C', a1, a2⟩ := ih m C hm h h8 (fun k => by
        rw [hr, swT, spT, if_pos]
        rw [← hr, h0]; decide)
      refine ⟨m', C', ?_, a2⟩
      rw [h0, if_pos (show nI 0 = 0 from rfl), lt1_s, nI_1, a1]
    · obtain ⟨m1, b1, b2, b3⟩ := m_stays h h8 hg hb
      have hm1 := hm.trans b2
      obtain ⟨m2, c1, c2, c3⟩ := m_treads (M.f hm1) b3 (styC_8 h8) (dd := dd) ((hm1.1 0 29 (by decide) (by decide)).trans hdd) hd2 hg hb ht0
      rw [curP_fr (N := N) (hm1.1 0 12 (by decide) (by decide)), ← Nat.add_assoc] at c3
      obtain ⟨m', C', a1, a2⟩ := ih m2 _ (hm1.trans c2) c3 (fun k => trC_8 (styC_8 h8)) (fun k => by
        rw [swT]
        exact rel_step h8 hr hb htm h0 k)
      refine ⟨m', C', ?_, a2⟩
      have h8b := h8 (g * 12 + b)
      rw [if_neg (nI_ne0 (by omega) (by omega)), b1, bd_s, c1, bd_s, lt1_s, nI_1, a1]
theorem m_out_loop (M : MN x m0 N i kd v row cr T) {t0 dd dr : Nat} (hdd : gI m0 0 29 = nI dd) (hd2 : dd ≤ 30) (hdr : gI m0 0 4 = nI dr) (hdr2 : dr < 12) (ht0 : t0 ≤ 30000) : ∀ (f g fuel : Nat) (m : gMem) (C Tb : Nat → Nat), ok1517 m0 m → CT m C → (∀ k, C k < 8) → (∀ k, lw3 (C k) = Tb k) → f + g = 31 → f < fuel → ∃ m', lq2 (s_X12_outBy_38 (nI i) (nI t0)) fuel (nI g) m = some (ansN (fwN (nzG (curP N m0) kd v row cr T) (fun t => depN (curP N m0) t + dd) (tmN kd) dr t0 f Tb g), m') ∧ ok1517 m0 m'
  | 0, g, fuel, m, C, Tb, hm, h, h8, hr, h1, h2 => by
    obtain ⟨f, rfl⟩ : ∃ f, fuel = f + 1 := ⟨fuel - 1, by omega⟩
    refine ⟨m, ?_, hm⟩
    rw [lq2_u]
    generalize lq2 (s_X12_outBy_38 (nI i) (nI t0)) f = F
    unfold s_X12_outBy_38
    rw [if_pos (show (31 : Int32) ≤ nI g from nI_le (a := 31) (by omega) (by omega))]
    rfl
  | f + 1, g, fuel, m, C, Tb, hm, h, h8, hr, h1, h2 => by
    obtain ⟨fu, rfl⟩ : ∃ f, fuel = f + 1 := ⟨fuel - 1, by omega⟩
    have c31 : ¬ (31 : Int32) ≤ nI g := nI_ge (b := 31) (by omega) (by decide)
    have hdrm := (hm.1 0 4 (by decide) (by decide)).trans hdr
    have e := h (g * 12 + dr) (by omega)
    have h8b := h8 (g * 12 + dr)
    have hl := lw_0 _ h8b
    rw [hr] at hl
    have hidx : ∀ F : Int32 → gMem → Option (Int32 × gMem), s_X12_outBy_38 (nI i) (nI t0) F (nI g) m = if nI (C (g * 12 + dr)) = 0 then (jn ((fun (m21 : gMem) => lt1 (nI g + (1 : Int32)) fun (x22 : Int32) => (F x22 m21)) : gMem → Option (Int32 × gMem)) fun j12 => lq2 (s_X12_outBy_69 j12 (nI g) (nI i) (nI t0)) 1000 (0 : Int32) m) else some (nI g, m) := by
      intro F
      unfold s_X12_outBy_38
      rw [if_neg c31, hdrm, li12, pk_mul, nI_add, Nat.mul_comm 12 g, if_pos (okN (show g * 12 + dr < 396 by omega) (by decide)), ixN (show g * 12 + dr < 2 ^ 31 by omega), e]
    by_cases h3 : Tb (g * 12 + dr) < 3
    · refine ⟨m, ?_, hm⟩
      have h0 : C (g * 12 + dr) ≠ 0 := fun q => by have := hl.1.mpr q; omega
      rw [lq2_u, hidx, if_neg (nI_ne0 (by omega) (by omega)), fwN, if_pos h3]
      rfl
    · have h0 : C (g * 12 + dr) = 0 := hl.1.mp (by have := hl.2; omega)
      obtain ⟨m1, C1, a1, a2, a3, a4, a5⟩ := m_sweep M hdd hd2 (g := g) (t0 := t0) (by omega) ht0 (fun (m21 : gMem) => lt1 (nI g + (1 : Int32)) fun (x22 : Int32) => lq2 (s_X12_outBy_38 (nI i) (nI t0)) fu x22 m21) (Tb := Tb) 12 0 1000 m C hm h h8 hr rfl (by decide)
      obtain ⟨m', b1, b2⟩ := m_out_loop M hdd hd2 hdr hdr2 ht0 f (g + 1) fu m1 C1 _ a2 a3 a4 a5 (by omega) (by omega)
      refine ⟨m', ?_, b2⟩
      rw [lq2_u, hidx, h0, if_pos (show nI 0 = 0 from rfl), jn_s, li0, a1, lt1_s, nI_1, b1, fwN, if_neg h3]
theorem m_init (J : gMem → Option (Int32 × gMem)) : ∀ (d k fuel : Nat) (m : gMem), d + k = 396 → d < fuel → ∃ m', lq2 (s_X12_outBy_3 J) fuel (nI k) m = J m' ∧ ok1517 m m' ∧ (∀ c, c < k → gI m' 17 c = gI m 17 c) ∧ ∀ c, k ≤ c → c < 396 → gI m' 17 c = nI 0
  | 0, k, fuel, m, h1, h2 => by
    obtain ⟨f, rfl⟩ : ∃ f, fuel = f + 1 := ⟨fuel - 1, by omega⟩
    refine ⟨m, ?_, ok1517.rfl, fun _ _ => rfl, fun c p q => by omega⟩
    rw [lq2_u]
    generalize lq2 (s_X12_outBy_3 J) f = F
    unfold s_X12_outBy_3
    simp (disch := omega) only [lt1, jn, bd_s, bd2_s, oc_s, oc_n, li0, li1, li2, li3, li4, li5, li6, li7, li8, li9, li10, li11, li12, li13, li14, li16, li20, li21, li22, li24, li30, li31, li33, li38, li39, li40, li41, li45, li48, li50, li51, li57, li58, li59, li60, li61, li62, li64, li70, li71, li72, li99, li100, li101, li104, li107, li109, li116, li120, li121, li124, li127, li128, li144, li255, li300, li360, li372, li396, li600, li999, li1000, li9960, li9990, li1000000, nI_1, nI_add, pk_sub, pk_mul, pk_div, rem_nI, i_lt, i_le, i_eq, okI, ix, isB, nI_clamp, nI_toInt, tneg, gI_sI, gR_sI, gJ_sI, gI_sR, gR_sR, gJ_sR, gI_sJ, gR_sJ, gJ_sJ, true_and, and_true, false_and, and_false, if_true, if_false, if_pos, if_neg]
  | d + 1, k, fuel, m, h1, h2 => by
    obtain ⟨f, rfl⟩ : ∃ f, fuel = f + 1 := ⟨fuel - 1, by omega⟩
    obtain ⟨m', a1, a2, a3, a4⟩ := m_init J d (k + 1) f (gsI m 17 k (nI 0)) (by omega) (by omega)
    refine ⟨m', ?_, (ok1517.set m k _).trans a2, fun c hc => ?_, fun c p q => ?_⟩
    · rw [← a1, lq2_u]
      generalize lq2 (s_X12_outBy_3 J) f = F
      unfold s_X12_outBy_3
      simp (disch := omega) only [lt1, jn, bd_s, bd2_s, oc_s, oc_n, li0, li1, li2, li3, li4, li5, li6, li7, li8, li9, li10, li11, li12, li13, li14, li16, li20, li21, li22, li24, li30, li31, li33, li38, li39, li40, li41, li45, li48, li50, li51, li57, li58, li59, li60, li61, li62, li64, li70, li71, li72, li99, li100, li101, li104, li107, li109, li116, li120, li121, li124, li127, li128, li144, li255, li300, li360, li372, li396, li600, li999, li1000, li9960, li9990, li1000000, nI_1, nI_add, pk_sub, pk_mul, pk_div, rem_nI, i_lt, i_le, i_eq, okI, ix, isB, nI_clamp, nI_toInt, tneg, gI_sI, gR_sI, gJ_sI, gI_sR, gR_sR, gJ_sR, gI_sJ, gR_sJ, gJ_sJ, true_and, and_true, false_and, and_false, if_true, if_false, if_pos, if_neg]
    · rw [a3 c (by omega), gI_n (by omega)]
    · by_cases hc : c = k
      · subst hc; rw [a3 c (by omega), gI_y ⟨rfl, rfl⟩]
      · exact a4 c (by omega) q
theorem lw_pow : ∀ s, s < 3 → lw3 (2 ^ s) = s ∧ 2 ^ s < 8 := by decide
theorem m_outBy (M : MN x m0 N i kd v row cr T) {t0 dd dr b s : Nat} (hdd : gI m0 0 29 = nI dd) (hd2 : dd ≤ 30) (hdr : gI m0 0 4 = nI dr) (hdr2 : dr < 12) (ht0 : t0 ≤ 30000) (hb : b < 12) (hs : s ≤ 2) : ∃ m', f_X12_outBy m0 (nI i) (nI b) (nI t0) (nI s) = some (ansN (fwN (nzG (curP N m0) kd v row cr T) (fun t => depN (curP N m0) t + dd) (tmN kd) dr t0 31 (T0 b s) 0), m') ∧ ok1517 m0 m' := by
  obtain ⟨m1, a1, a2, -, a4⟩ := m_init (fun (m7 : gMem) => if okI (nI b) 396 then lt1 (gsI m7 17 (ix (nI b)) ((1 : Int32) <<< (nI s &&& 31))) fun (m8 : gMem) => lq2 (s_X12_outBy_38 (nI i) (nI t0)) 1000 (nI 0) m8 else none) 396 0 1000 m0 rfl (by decide)
  have hp := lw_pow s (by omega)
  obtain ⟨m', b1, b2⟩ := m_out_loop M hdd hd2 hdr hdr2 ht0 31 0 1000 (gsI m1 17 b (nI (2 ^ s))) (fun k => if k = b then 2 ^ s else 0) (T0 b s) (a2.trans (ok1517.set _ _ _)) (fun k hk => by
    dsimp only
    by_cases h : k = b
    · subst h; rw [gI_y ⟨rfl, rfl⟩, if_pos rfl]
    · rw [gI_n (by omega), if_neg h, a4 k (by omega) hk]) (fun k => by (try dsimp only); split; exact hp.2; decide) (fun k => by
      unfold T0
      try dsimp only
      by_cases h : k = b
      · rw [if_pos h, if_pos h]; exact hp.1
      · rw [if_neg h, if_neg h]; rfl) rfl (by decide)
  refine ⟨m', ?_, b2⟩
  rw [← b1]
  rw [if_pos (okN (show b < 396 by omega) (by decide)), ixN (show b < 2 ^ 31 by omega), m_sh3 s (by omega), lt1_s] at a1
  rw [← a1]
  unfold f_X12_outBy
  rw [jn_s, li0, ixN (show b < 2 ^ 31 by omega), m_sh3 s (by omega)]
end W3

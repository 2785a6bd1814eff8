/-! quiet: the reference's search -/
def TS (m : gMem) (tr sm : Nat → Nat) (k : Nat) : Prop := ∀ j, j ≤ k → (gI m 18 j = nI (tr j) ∧ tr j < 12) ∧ gI m 20 j = nI (sm j) ∧ sm j ≤ 1030 * j
/-- what comes of the boards from i on, next to the k-th on the trail -/
def chP (nz : Nat → Nat → Nat) (tm dr t0 : Nat) (tr sm : Nat → Nat) (k i : Nat) (e : Nat × Nat) : Prop := ∃ o, i ≤ o ∧ o < 12 ∧ bes (tr k) o = true ∧ tyb (bnT tr (k + 1)) o = 0 ∧ rch nz tm dr t0 (11 - k) o (bnT tr (k + 1)) (k + 1) (sm k + nz o (t0 + (k + 1) * tm)) e
def one (nz : Nat → Nat → Nat) (tm dr t0 : Nat) (tr sm : Nat → Nat) (k o : Nat) (e : Nat × Nat) : Prop := bes (tr k) o = true ∧ tyb (bnT tr (k + 1)) o = 0 ∧ rch nz tm dr t0 (11 - k) o (bnT tr (k + 1)) (k + 1) (sm k + nz o (t0 + (k + 1) * tm)) e
section Q3
variable {x m x' m' m0 : gMem} {N : Nat → List cls} {iw kd v T : Nat} {row cr : Nat → Nat}
theorem chP_s {nz : Nat → Nat → Nat} {tm dr t0 k i : Nat} {tr sm : Nat → Nat} (hi : i < 12) (e : Nat × Nat) : (one nz tm dr t0 tr sm k i e ∨ chP nz tm dr t0 tr sm k (i + 1) e) ↔ chP nz tm dr t0 tr sm k i e := by
  constructor
  · rintro (⟨h1, h2, h3⟩ | ⟨o, h0, h⟩)
    · exact ⟨i, Nat.le_refl _, hi, h1, h2, h3⟩
    · exact ⟨o, by omega, h⟩
  · rintro ⟨o, h0, h1, h2⟩
    by_cases ho : o = i
    · subst ho; exact Or.inl h2
    · exact Or.inr ⟨o, by omega, h1, h2⟩
theorem QB.fr {b : Nat × Nat} (h : QB m b) (h1 : gI m' 0 39 = gI m 0 39) (h2 : gI m' 0 40 = gI m 0 40) : QB m' b := by
  unfold QB at *
  rw [h1, h2]; exact h
theorem MN.fL (h : MN x m N iw kd v row cr T) (hm : okL m m') : MN x m' N iw kd v row cr T := h.ag hm.ag
/-- one turn of the search: where it goes on -/
theorem lay_turn (M : MN x m0 N iw kd v row cr T) {t0 dr k i : Nat} {tr sm : Nat → Nat} (ht : gI m0 0 1 = nI t0) (ht0 : t0 ≤ 30000) (hd : gI m0 0 4 = nI dr) (hdr : dr < 12) (hk : k ≤ 7) (hi : i < 12) (A : okL m0 m) (hT : TS m tr sm k) (h19 : gI m 19 k = nI i) {best : Nat × Nat} (hq : QB m best) :
    (∃ m1 best1, (∀ G : Int32 → gMem → Option gMem, s_X12_layQuiet_57 (nI iw) G (nI k) m = G (nI k) m1) ∧ okL m0 m1 ∧ TS m1 tr sm k ∧ (∀ j, j ≤ k → gI m1 18 j = gI m 18 j ∧ gI m1 20 j = gI m 20 j) ∧ (∀ j, j < k → gI m1 19 j = gI m 19 j) ∧ gI m1 19 k = nI (i + 1) ∧ QB m1 best1 ∧ Best (one (nzG (curP N m0) kd v row cr T) (tmN kd) dr t0 tr sm k i) best best1) ∨
    (∃ m1, k < 7 ∧ bes (tr k) i = true ∧ (∀ G : Int32 → gMem → Option gMem, s_X12_layQuiet_57 (nI iw) G (nI k) m = G (nI (k + 1)) m1) ∧ okL m0 m1 ∧ TS m1 (fun j => if j = k + 1 then i else tr j) (fun j => if j = k + 1 then sm k + nzG (curP N m0) kd v row cr T i (t0 + (k + 1) * tmN kd) else sm j) (k + 1) ∧ (∀ j, j ≤ k → gI m1 18 j = gI m 18 j ∧ gI m1 20 j = gI m 20 j) ∧ (∀ j, j < k → gI m1 19 j = gI m 19 j) ∧ gI m1 19 k = nI (i + 1) ∧ gI m1 19 (k + 1) = nI 0 ∧ QB m1 best ∧ ∀ e, chP (nzG (curP N m0) kd v row cr T) (tmN kd) dr t0 (fun j => if j = k + 1 then i else tr j) (fun j => if j = k + 1 then sm k + nzG (curP N m0) kd v row cr T i (t0 + (k + 1) * tmN kd) else sm j) (k + 1) 0 e ↔ one (nzG (curP N m0) kd v row cr T) (tmN kd) dr t0 tr sm k i e) := by
  have htm := tmN_le kd
  have c9 := okN (show k < 9 by omega) (show 9 < 2 ^ 31 by decide)
  have ckn : ¬ nI k < 0 := nI_pos (by omega)
  have c11 : nI i ≤ (11 : Int32) := nI_le (b := 11) (by omega) (by decide)
  obtain ⟨⟨hk18, htk⟩, hk20, hsk⟩ := hT k (Nat.le_refl _)
  have A1 : okL m0 (gsI m 19 k (nI (i + 1))) := A.trans (okL.s18 _ _ _ _ (by omega))
  have hbs := m_bes1 (tr k) htk i hi
  have q18 : ∀ j, gI (gsI m 19 k (nI (i + 1))) 18 j = gI m 18 j := fun j => gI_n (by omega)
  have q20 : ∀ j, gI (gsI m 19 k (nI (i + 1))) 20 j = gI m 20 j := fun j => gI_n (by omega)
  have hT1 : TS (gsI m 19 k (nI (i + 1))) tr sm k := fun j hj => by rw [q18, q20]; exact hT j hj
  have hq1 : QB (gsI m 19 k (nI (i + 1))) best := by
    unfold QB at *
    rw [gI_n (by omega), gI_n (by omega)]; exact hq
  have head : ∀ (G : Int32 → gMem → Option gMem) (R : Option gMem), (bd (some (nI (if bes (tr k) i = true then 1 else 0))) fun (x11 : Int32) => if x11 = 0 then (G (nI k) (gsI m 19 k (nI (i + 1)))) else bd (f_X12_isOnTrail (gsI m 19 k (nI (i + 1))) (nI i) (nI k)) fun (x12 : Int32) => if x12 = 0 then (if okI (nI k) 9 then bd (f_X12_timeOf (gsI m 19 k (nI (i + 1))) (nI iw)) fun (x13 : Int32) => bd2 (f_X12_noise (gsI m 19 k (nI (i + 1))) (nI iw) (nI i) ((gI (gsI m 19 k (nI (i + 1))) 0 1) + (((nI k) + (1 : Int32)) * x13))) fun (x15 : Int32) (m14 : gMem) => if okI ((nI k) + (1 : Int32)) 9 then lt1 (gsI m14 20 (ix ((nI k) + (1 : Int32))) ((gI (gsI m 19 k (nI (i + 1))) 20 (ix (nI k))) + x15)) fun (m16 : gMem) => if okI ((nI k) + (1 : Int32)) 9 then lt1 (gsI m16 18 (ix ((nI k) + (1 : Int32))) (nI i)) fun (m17 : gMem) => jn ((fun (x22 : Int32) (m23 : gMem) => (G x22 m23)) : Int32 → gMem → Option gMem) fun j18 => if nI i = (gI m17 0 4) then (bd (f_X12_found m17 ((nI k) + (1 : Int32))) fun (m21 : gMem) => (j18 (nI k) m21)) else if (7 : Int32) ≤ nI k then ((j18 (nI k) m17)) else lt1 ((nI k) + (1 : Int32)) fun (x19 : Int32) => if okI x19 9 then lt1 (gsI m17 19 (ix x19) (0 : Int32)) fun (m20 : gMem) => (j18 x19 m20) else none else none else none else none) else (G (nI k) (gsI m 19 k (nI (i + 1))))) = R → s_X12_layQuiet_57 (nI iw) G (nI k) m = R := by
    intro G R h
    rw [← h]
    unfold s_X12_layQuiet_57
    rw [if_neg ckn, if_pos c9, ixN (by omega), h19, lt1_s, if_pos c9, if_pos c9, nI_1, lt1_s, if_pos c11, if_pos c9, q18, hk18, hbs]
  by_cases hb : bes (tr k) i = true
  rotate_left
  · refine Or.inl ⟨gsI m 19 k (nI (i + 1)), best, fun G => head G _ ?_, A1, hT1, fun j _ => ⟨q18 j, q20 j⟩, fun j hj => gI_n (by omega), gI_y ⟨rfl, rfl⟩, hq1, Best.no (fun e he => hb he.1)⟩
    rw [if_neg hb, bd_s, if_pos (show nI 0 = 0 from rfl)]
  have htr := m_onTrail (m := gsI m 19 k (nI (i + 1))) (k := k) (o := i) (tr := tr) (by omega) hi (fun j hj => (hT1 j hj).1)
  have htl := tyb_lt (bnT tr (k + 1)) i
  by_cases hv : tyb (bnT tr (k + 1)) i = 0
  rotate_left
  · refine Or.inl ⟨gsI m 19 k (nI (i + 1)), best, fun G => head G _ ?_, A1, hT1, fun j _ => ⟨q18 j, q20 j⟩, fun j hj => gI_n (by omega), gI_y ⟨rfl, rfl⟩, hq1, Best.no (fun e he => hv he.2.1)⟩
    rw [if_pos hb, bd_s, if_neg (show ¬ nI 1 = 0 by decide), htr, bd_s, if_neg (nI_ne0 (by omega) (by omega))]
  have M1 := M.fL A1
  have htb : t0 + (k + 1) * tmN kd ≤ t0 + 16 := by
    have : (k + 1) * tmN kd ≤ 8 * 2 := Nat.mul_le_mul (by omega) htm.2
    omega
  obtain ⟨m2, e1, e2⟩ := M1.noise (b := i) (t := t0 + (k + 1) * tmN kd) hi (by omega)
  rw [curP_fr (N := N) (A1.1 0 12 (by omega) (by omega) (by omega))] at e1
  have hle := M.le (b := i) hi (t0 + (k + 1) * tmN kd)
  have mt := m_time (m := gsI m 19 k (nI (i + 1))) M1.2.2.1 M1.2.2.2.1 M1.2.2.2.2.2.2.1
  have et1 : gI (gsI m 19 k (nI (i + 1))) 0 1 = nI t0 := (A1.1 0 1 (by omega) (by omega) (by omega)).trans ht
  generalize hnz : nzG (curP N m0) kd v row cr T i (t0 + (k + 1) * tmN kd) = nn at *
  -- the trail is longer by one
  have A3 : okL m0 (gsI (gsI m2 20 (k + 1) (nI (sm k + nn))) 18 (k + 1) (nI i)) := ((A1.trans e2.toL).trans (okL.s18 _ _ _ _ (by omega))).trans (okL.s18 _ _ _ _ (by omega))
  have p18 : ∀ j, j ≤ k → gI (gsI (gsI m2 20 (k + 1) (nI (sm k + nn))) 18 (k + 1) (nI i)) 18 j = gI m 18 j := fun j hj => by rw [gI_n (by omega), gI_n (by omega), e2.1 _ _ (by omega), q18]
  have p20 : ∀ j, j ≤ k → gI (gsI (gsI m2 20 (k + 1) (nI (sm k + nn))) 18 (k + 1) (nI i)) 20 j = gI m 20 j := fun j hj => by rw [gI_n (by omega), gI_n (by omega), e2.1 _ _ (by omega), q20]
  have p19 : ∀ j, gI (gsI (gsI m2 20 (k + 1) (nI (sm k + nn))) 18 (k + 1) (nI i)) 19 j = gI (gsI m 19 k (nI (i + 1))) 19 j := fun j => by rw [gI_n (by omega), gI_n (by omega), e2.1 _ _ (by omega)]
  have pq : QB (gsI (gsI m2 20 (k + 1) (nI (sm k + nn))) 18 (k + 1) (nI i)) best := hq1.fr (by rw [gI_n (by omega), gI_n (by omega), e2.1 _ _ (by omega)]) (by rw [gI_n (by omega), gI_n (by omega), e2.1 _ _ (by omega)])
  have pd : gI (gsI (gsI m2 20 (k + 1) (nI (sm k + nn))) 18 (k + 1) (nI i)) 0 4 = nI dr := (A3.1 0 4 (by omega) (by omega) (by omega)).trans hd
  have ps : gI (gsI (gsI m2 20 (k + 1) (nI (sm k + nn))) 18 (k + 1) (nI i)) 20 (k + 1) = nI (sm k + nn) := by rw [gI_n (by omega), gI_y ⟨rfl, rfl⟩]
  have pt : gI (gsI (gsI m2 20 (k + 1) (nI (sm k + nn))) 18 (k + 1) (nI i)) 18 (k + 1) = nI i := gI_y ⟨rfl, rfl⟩
  have c91 := okN (show k + 1 < 9 by omega) (show 9 < 2 ^ 31 by decide)
  have head2 : ∀ (G : Int32 → gMem → Option gMem) (R : Option gMem), (if nI i = nI dr then (bd (f_X12_found (gsI (gsI m2 20 (k + 1) (nI (sm k + nn))) 18 (k + 1) (nI i)) (nI (k + 1))) fun (m21 : gMem) => (G (nI k) m21)) else if (7 : Int32) ≤ nI k then (G (nI k) (gsI (gsI m2 20 (k + 1) (nI (sm k + nn))) 18 (k + 1) (nI i))) else G (nI (k + 1)) (gsI (gsI (gsI m2 20 (k + 1) (nI (sm k + nn))) 18 (k + 1) (nI i)) 19 (k + 1) (0 : Int32))) = R → s_X12_layQuiet_57 (nI iw) G (nI k) m = R := by
    intro G R h
    refine head G R ?_
    rw [← h, if_pos hb, bd_s, if_neg (show ¬ nI 1 = 0 by decide), htr, bd_s, if_pos (show nI (tyb (bnT tr (k + 1)) i) = 0 by rw [hv]; rfl), if_pos c9, mt, bd_s, et1, nI_1, pk_mul, nI_add, e1, bd2_s, if_pos c91, ixN (show k + 1 < 2 ^ 31 by omega), ixN (show k < 2 ^ 31 by omega), q20, hk20, nI_add, lt1_s, if_pos c91, lt1_s, jn_s, pd, lt1_s, if_pos c91, ixN (show k + 1 < 2 ^ 31 by omega), lt1_s]
  generalize hm3 : gsI (gsI m2 20 (k + 1) (nI (sm k + nn))) 18 (k + 1) (nI i) = m3 at *
  have hT3 : TS m3 tr sm k := fun j hj => by rw [p18 j hj, p20 j hj]; exact hT j hj
  by_cases hdo : i = dr
  · obtain ⟨m4, best', f1, f2, f3, f4, f5, f6⟩ := m_found (m := m3) (k := k + 1) (s := sm k + nn) (best := best) (by omega) (by omega) ps pq
    refine Or.inl ⟨m4, best', fun G => head2 G _ ?_, A3.trans ⟨fun o c _ _ q => f2 o c q, f3, f4⟩, fun j hj => by rw [f2 _ _ (by omega), f2 _ _ (by omega)]; exact hT3 j hj, fun j hj => ⟨(f2 _ _ (by omega)).trans (p18 j hj), (f2 _ _ (by omega)).trans (p20 j hj)⟩, fun j hj => by rw [f2 _ _ (by omega), p19, gI_n (by omega)], by rw [f2 _ _ (by omega), p19, gI_y ⟨rfl, rfl⟩], f5, f6.eqv (fun e => ?_)⟩
    · rw [if_pos (by rw [hdo]), f1, bd_s]
    · unfold one
      rw [hnz, show 11 - k = (10 - k) + 1 by omega, rch, if_pos hdo]
      exact ⟨fun q => ⟨hb, hv, q⟩, fun q => q.2.2⟩
  · have hne : ¬ nI i = nI dr := fun z => hdo (nI_inj (by omega) (by omega) z)
    by_cases hk7 : k < 7
    · refine Or.inr ⟨gsI m3 19 (k + 1) (nI 0), hk7, hb, fun G => head2 G _ ?_, A3.trans (okL.s18 _ _ _ _ (by omega)), fun j hj => ?_, fun j hj => ⟨?_, ?_⟩, fun j hj => ?_, ?_, gI_y ⟨rfl, rfl⟩, ?_, fun e => ?_⟩
      · rw [if_neg hne, if_neg (show ¬ (7 : Int32) ≤ nI k from nI_ge (b := 7) hk7 (by decide))]; rfl
      · rw [gI_n (by omega), gI_n (by omega)]
        by_cases hj2 : j = k + 1
        · subst hj2
          simp only [if_true]
          exact ⟨⟨pt, hi⟩, ps, by omega⟩
        · simp only [if_neg hj2]
          exact hT3 j (by omega)
      · rw [gI_n (by omega)]; exact p18 j hj
      · rw [gI_n (by omega)]; exact p20 j hj
      · rw [gI_n (by omega), p19, gI_n (by omega)]
      · rw [gI_n (by omega), p19, gI_y ⟨rfl, rfl⟩]
      · exact pq.fr (gI_n (by omega)) (gI_n (by omega))
      · have hbn : bnT (fun j => if j = k + 1 then i else tr j) (k + 1 + 1) = bnT tr (k + 1) ||| 2 ^ i := by
          rw [bnT, bnT_fr (tr := tr) (tr' := fun j => if j = k + 1 then i else tr j) (k + 1) (fun j hj => if_neg (by omega)), if_pos rfl]
        unfold chP one
        rw [hbn, hnz]
        simp only [if_true]
        rw [show 11 - k = (11 - (k + 1)) + 1 by omega, rch, if_neg hdo]
        exact ⟨fun ⟨o, _, q⟩ => ⟨hb, hv, by omega, o, q⟩, fun ⟨_, _, _, o, q⟩ => ⟨o, Nat.zero_le _, q⟩⟩
    · refine Or.inl ⟨m3, best, fun G => head2 G _ ?_, A3, hT3, fun j hj => ⟨p18 j hj, p20 j hj⟩, fun j hj => by rw [p19, gI_n (by omega)], by rw [p19, gI_y ⟨rfl, rfl⟩], pq, Best.no (fun e he => ?_)⟩
      · rw [if_neg hne, if_pos (show (7 : Int32) ≤ nI k from nI_le (a := 7) (by omega) (by omega))]
      · have h3 := he.2.2
        rw [show 11 - k = (10 - k) + 1 by omega, rch, if_neg hdo] at h3
        have := h3.1
        omega
end Q3

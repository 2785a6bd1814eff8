/-! THE TEXT: all CLAUSES -/
/-- what the reference may change while it reads a NIGHT -/
def okW (g : Nat) (x x' : gMem) : Prop := (∀ o k, ¬ (o = 0 ∧ (k = 14 ∨ k = 15 ∨ k = 24 ∨ k = 25 ∨ k = 26)) → o ≠ 13 → ¬ (o = 12 ∧ 100 * g ≤ k) → ¬ (8 ≤ o ∧ o ≤ 11 ∧ 10 * g ≤ k) → ¬ (o = 7 ∧ k = g) → gI x' o k = gI x o k) ∧ (∀ o k, gJ x' o k = gJ x o k) ∧ ∀ o k, gR x' o k = gR x o k
section G2
variable {L : List Nat} {tx : Nat → Nat} {len g : Nat}
theorem okW.trans {x y z : gMem} (h1 : okW g x y) (h2 : okW g y z) : okW g x z := ⟨fun o k a b c d e => (h2.1 o k a b c d e).trans (h1.1 o k a b c d e), fun o k => (h2.2.1 o k).trans (h1.2.1 o k), fun o k => (h2.2.2 o k).trans (h1.2.2 o k)⟩
theorem okT.toW {B P : Nat} {x x' : gMem} (h : okT B P x x') (hB : 100 * g ≤ B) (hP : 10 * g ≤ P) : okW g x x' := ⟨fun o k a b c d _ => h.1 o k a b (by omega) (by omega), h.2⟩
theorem okW.s (x : gMem) (o k : Nat) (v : Int32) (h : (o = 0 ∧ k = 14) ∨ (o = 7 ∧ k = g)) : okW g x (gsI x o k v) := ⟨fun o' c h1 h2 h3 h4 h5 => gI_n (fun z => by obtain ⟨rfl, rfl⟩ := z; omega), fun _ _ => rfl, fun _ _ => rfl⟩
theorem TXM.fw {x x' : gMem} (h : TXM x tx len) (hx : okW g x x') : TXM x' tx len := ⟨(hx.1 _ _ (by omega) (by omega) (by omega) (by omega) (by omega)).trans h.1, h.2.1, fun k hk => ⟨(hx.1 _ _ (by omega) (by omega) (by omega) (by omega) (by omega)).trans (h.2.2 k hk).1, (h.2.2 k hk).2⟩⟩
def NL (tx : Nat → Nat) (len g i : Nat) (x m : gMem) (p : Nat) (P : List cls) : Prop := TXX x tx len ∧ gI x 30 2 = nI p ∧ p ≤ len ∧ gR x 30 3 = some (60 + 5 * g) ∧ gI x (60 + 5 * g) 5 = nI (clen P) ∧ clen P ≤ p ∧ gI x (60 + 5 * g) 0 = nI i ∧ P.length = i ∧ TXM m tx len ∧ gI m 0 14 = nI p ∧ gI m 0 24 = nI (100 * g + clen P) ∧ (∀ k, k < 13 → gI m 14 k = nI (lett k)) ∧ nOK x m g 0 0 P
def NF (X : Option (Int32 × gMem)) (M : Option (Int32 × gMem)) (g : Nat) (x m : gMem) : Prop := ∃ q x' m', X = some (nI q, x') ∧ M = some (0, m') ∧ q ≤ 100 ∧ gI m' 0 14 = nI q ∧ okY (60 + 5 * g) 0 x x' ∧ okW g m m'
def NY (X : Option (Int32 × gMem)) (M : Option (Int32 × gMem)) (g : Nat) (x m : gMem) : Prop := ∃ P' x' m', X = some (-5, x') ∧ M = some (1, m') ∧ ntOK x' m' g P' ∧ okY (60 + 5 * g) 0 x x' ∧ okW g m m'
theorem n_step {j6 : gMem → Option (Int32 × gMem)} (hj : ∀ y, j6 y = if gI y 30 2 = gI y 30 1 then (some ((-5 : Int32), y)) else some (gI y 30 2, y)) (hg : g < 6) {i p : Nat} {x m : gMem} {P : List cls} (hi : i < 10) (h : NL tx len g i x m p P) (f e : Nat) : NF (lq3 (s_X4_readNight_27 j6 L) (f + 2) 1 (nI i) x) (lq2 (s_X12_goesText_15 (nI g)) (e + 1) (nI i) m) g x m ∨ NY (lq3 (s_X4_readNight_27 j6 L) (f + 2) 1 (nI i) x) (lq2 (s_X12_goesText_15 (nI g)) (e + 1) (nI i) m) g x m ∨ (i + 1 < 10 ∧ ∃ x' m' q P', lq3 (s_X4_readNight_27 j6 L) (f + 2) 1 (nI i) x = lq3 (s_X4_readNight_27 j6 L) (f + 1) 1 (nI (i + 1)) x' ∧ lq2 (s_X12_goesText_15 (nI g)) (e + 1) (nI i) m = lq2 (s_X12_goesText_15 (nI g)) e (nI (i + 1)) m' ∧ NL tx len g (i + 1) x' m' q P' ∧ okY (60 + 5 * g) 0 x x' ∧ okW g m m') := by
  have hisN : isN (60 + 5 * g) := by
    have : g = 0 ∨ g = 1 ∨ g = 2 ∨ g = 3 ∨ g = 4 ∨ g = 5 := by omega
    rcases this with h | h | h | h | h | h <;> rw [h] <;> decide
  obtain ⟨h3, h4, h5, h6, h7, h8, h9, hP, t3, t4, t5, t6, hN⟩ := h
  have hl := h3.2.1
  have hm0 : ∀ F, s_X12_goesText_15 (nI g) F (nI i) m = bd2 (f_X12_takesClause m (nI (10 * g + i))) fun (x7 : Int32) (m6 : gMem) => if x7 = 0 then (some ((0 : Int32), m6)) else lt1 (nI (i + 1)) fun (x8 : Int32) => if okI (nI g) 6 then lt1 (gsI m6 7 (ix (nI g)) x8) fun (m9 : gMem) => if (gI m9 0 14) = (gI m9 0 13) then (some ((1 : Int32), m9)) else if x8 = (10 : Int32) then (some ((0 : Int32), m9)) else bd2 (f_X12_takes m9 (59 : Int32)) fun (x11 : Int32) (m10 : gMem) => if x11 = 0 then (some ((0 : Int32), m10)) else (F x8 m10) else none := fun F => by
    unfold s_X12_goesText_15
    rw [li10, pk_mul, nI_add, nI_1]
  rw [show f + 2 = (f + 1) + 1 from rfl, lq3_u, lq2_u, hm0]
  rcases x_clause (L := L) (j6 := j6) hisN (by omega) hi h3 h4 h5 h6 h7 h8 h9 (lq3 (s_X4_readNight_27 j6 L) (f + 1)) with ⟨q, x1, a1, a2, a3, a4⟩ | ⟨w, v, l, q, x1, a1, a2, hw, hv, hq, hn, b1, b2, b3, b4, b5, b6, b7, b8, b9⟩
  · obtain ⟨m1, c1, c2, c3⟩ := (m_clause (B := 100 * g + clen P) (P := 10 * g + i) (by omega) t3 t4 h5 t6 t5 (by omega) a1).1 rfl
    refine Or.inl ⟨q, x1, m1, a2, ?_, by omega, c2, ⟨fun o k u1 u2 u3 u4 => a4.1 o k u1 u2 u3 (by omega), a4.2⟩, c3.toW (by omega) (by omega)⟩
    rw [c1, bd2_s, if_pos rfl]
  obtain ⟨m1, c1, c2, c3, c4, c5, c6, c7, c8, c9⟩ := (m_clause (B := 100 * g + clen P) (P := 10 * g + i) (by omega) t3 t4 h5 t6 t5 (by omega) a1).2 w v l rfl
  have hY : okY (60 + 5 * g) 0 x x1 := ⟨fun o k u1 u2 u3 u4 => b9.1 o k u1 u2 u3 (by omega), b9.2⟩
  have hM : ∃ m2, m2 = gsI m1 7 g (nI (i + 1)) := ⟨_, rfl⟩
  obtain ⟨m2, hm2⟩ := hM
  have k2 : ∀ o k, ¬ (o = 7 ∧ k = g) → gI m2 o k = gI m1 o k := fun o k z => by rw [hm2, gI_n z]
  have hW1 : okW g m m1 := c9.toW (by omega) (by omega)
  have hW : okW g m m2 := hW1.trans (by rw [hm2]; exact okW.s _ _ _ _ (by omega))
  have e14 : gI m2 0 14 = nI q := (k2 _ _ (by omega)).trans c2
  have hT2 := t3.fw hW
  have hX1 := h3.fy (by omega) b9
  have e13 : gI m2 0 13 = nI len := hT2.1
  rw [c1, bd2_s, if_neg (show ¬ (1 : Int32) = 0 by decide), lt1_s, if_pos (okN hg (by decide)), ixN (by omega), lt1_s, ← hm2, e14, e13, a2]
  obtain ⟨p2, hp2⟩ : ∃ p2, PR tx len 0 0 p2 (some l) q := by
    rcases a1 with ⟨_, z, _⟩ | ⟨w', _, ⟨_, z, _⟩ | ⟨v', p2, _, ⟨_, z, _⟩ | ⟨_, ⟨z, _⟩ | ⟨l', z, zz⟩⟩⟩⟩
    · cases z
    · cases z
    · cases z
    · cases z
    · cases z; exact ⟨_, zz⟩
  have hc : clen (P ++ [(w, (v, l))]) = clen P + l.length := clen_app P (w, (v, l))
  have hlen : (P ++ [(w, (v, l))]).length = i + 1 := by rw [List.length_append, hP]; rfl
  have hOK : nOK x1 m2 g 0 0 (P ++ [(w, (v, l))]) := by
    refine nOK.app P 0 0 (nOK.up P 0 0 hN ?_ ?_ ?_ ?_) ?_
    · intro o k u1 u2 u3
      exact b9.1 o k (by omega) (by omega) (by omega) (by omega)
    · intro k hk
      exact b8 k (by omega)
    · intro o k u1 u2 u3
      exact (k2 _ _ (by omega)).trans (c9.1 o k (by omega) (by omega) (by omega) (by omega))
    · intro k hk
      exact (k2 _ _ (by omega)).trans (c9.1 12 k (by omega) (by omega) (by omega) (by omega))
    · rw [Nat.zero_add, Nat.zero_add, hP]
      refine CX.entry hw hv b4 ((k2 _ _ (by omega)).trans c4) b5 ((k2 _ _ (by omega)).trans c5) b6 ((k2 _ _ (by omega)).trans c6) ((k2 _ _ (by omega)).trans c7) b7 ?_ hp2
      exact c8.fr (fun k _ _ => k2 _ _ (by omega))
  have fin : ∀ G : Int32 → Int32 → gMem → Option (Int32 × gMem), s_X4_readNight_27 j6 L G 0 (nI (i + 1)) x1 = if q = len then some (-5, x1) else some (nI q, x1) := fun G => by
    unfold s_X4_readNight_27
    rw [if_pos (show (0 : Int32) = 0 from rfl), ite_self, hj, b1, hX1.1]
    by_cases z : q = len
    · rw [if_pos (show nI q = nI len by rw [z]), if_pos z]
    · rw [if_neg (show ¬ nI q = nI len from fun y => z (nI_inj (by omega) (by omega) y)), if_neg z]
  by_cases z : q = len
  · refine Or.inr (Or.inl ⟨P ++ [(w, (v, l))], x1, m2, ?_, by rw [if_pos (show nI q = nI len by rw [z])], ?_, hY, hW⟩)
    · have n59 : ¬ sg tx len q = 59 := by unfold sg; rw [if_neg (by omega)]; decide
      rw [if_neg n59, ite_self, lq3_u, fin, if_pos z]
    · exact ⟨by rw [hlen]; exact b2, by rw [hlen, hm2]; exact gI_y ⟨rfl, rfl⟩, by omega, by omega, hOK⟩
  rw [if_neg (show ¬ nI q = nI len from fun y => z (nI_inj (by omega) (by omega) y))]
  by_cases i9 : i = 9
  · subst i9
    refine Or.inl ⟨q, x1, m2, ?_, by rw [if_pos (show nI (9 + 1) = (10 : Int32) by decide)], by omega, e14, hY, hW⟩
    rw [if_pos (show (9 : Int32) ≤ nI 9 by decide), lq3_u, fin, if_neg z]
  rw [if_neg (show ¬ (9 : Int32) ≤ nI i from nI_ge (b := 9) (by omega) (by decide)), if_neg (show ¬ nI (i + 1) = (10 : Int32) from fun y => by have : i + 1 = 10 := nI_inj (by omega) (by decide) y; omega), show (59 : Int32) = nI 59 from rfl, m_takes hT2 e14 hq (by decide)]
  by_cases c59 : sg tx len q = 59
  · have hlt := sg_in c59 (by decide)
    rw [if_pos c59, if_pos c59, bd2_s, if_neg (show ¬ (1 : Int32) = 0 by decide)]
    have hxf : okR x1 (gsI x1 30 2 (nI (q + 1))) := okR.s _ _
    have hmf : okW g m2 (gsI m2 0 14 (nI (q + 1))) := okW.s _ _ _ _ (by omega)
    refine Or.inr (Or.inr ⟨by omega, gsI x1 30 2 (nI (q + 1)), gsI m2 0 14 (nI (q + 1)), q + 1, P ++ [(w, (v, l))], rfl, rfl, ⟨hX1.fr hxf, gI_y ⟨rfl, rfl⟩, by omega, (b9.2.2 30 3).trans h6, ?_, by omega, ?_, hlen, hT2.fw hmf, gI_y ⟨rfl, rfl⟩, ?_, ?_, ?_⟩, ?_, hW.trans hmf⟩)
    · rw [gI_n (by omega), b3, hc]
    · rw [gI_n (by omega), b2]
    · rw [gI_n (by omega), k2 _ _ (by omega), c3, hc, Nat.add_assoc]
    · intro k hk
      rw [gI_n (by omega), hW.1 _ _ (by omega) (by omega) (by omega) (by omega) (by omega)]
      exact t6 k hk
    · refine nOK.up _ 0 0 hOK ?_ ?_ ?_ ?_
      · intro o k u1 u2 u3; exact gI_n (by omega)
      · intro k hk; exact gI_n (by omega)
      · intro o k u1 u2 u3; exact gI_n (by omega)
      · intro k hk; exact gI_n (by omega)
    · exact ⟨fun o k u1 u2 u3 u4 => (hxf.1 o k (by omega)).trans (hY.1 o k u1 u2 u3 u4), hY.2⟩
  · rw [if_neg c59, if_neg c59, bd2_s, if_pos rfl]
    refine Or.inl ⟨q, x1, m2, ?_, rfl, by omega, e14, hY, hW⟩
    rw [lq3_u, fin, if_neg z]
theorem okY.t0 {x y z : gMem} (h1 : okY g 0 x y) (h2 : okY g 0 y z) : okY g 0 x z := h1.trans h2 (Nat.le_refl _)
theorem n_loop {j6 : gMem → Option (Int32 × gMem)} (hj : ∀ y, j6 y = if gI y 30 2 = gI y 30 1 then (some ((-5 : Int32), y)) else some (gI y 30 2, y)) (hg : g < 6) : ∀ (D i f e : Nat) (x m : gMem) (p : Nat) (P : List cls), i + (D + 1) = 10 → D < f → D < e → NL tx len g i x m p P → NF (lq3 (s_X4_readNight_27 j6 L) (f + 1) 1 (nI i) x) (lq2 (s_X12_goesText_15 (nI g)) e (nI i) m) g x m ∨ NY (lq3 (s_X4_readNight_27 j6 L) (f + 1) 1 (nI i) x) (lq2 (s_X12_goesText_15 (nI g)) e (nI i) m) g x m := by
  intro D
  induction D with
  | zero =>
    intro i f e x m p P hi hf he h
    obtain ⟨f, rfl⟩ : ∃ d, f = d + 1 := ⟨f - 1, by omega⟩
    obtain ⟨e, rfl⟩ : ∃ d, e = d + 1 := ⟨e - 1, by omega⟩
    rcases n_step (L := L) hj hg (by omega) h f e with a | a | ⟨a, _⟩
    · exact Or.inl a
    · exact Or.inr a
    · omega
  | succ D ih =>
    intro i f e x m p P hi hf he h
    obtain ⟨f, rfl⟩ : ∃ d, f = d + 1 := ⟨f - 1, by omega⟩
    obtain ⟨e, rfl⟩ : ∃ d, e = d + 1 := ⟨e - 1, by omega⟩
    rcases n_step (L := L) hj hg (by omega) h f e with a | a | ⟨a, x', m', q, P', a1, a2, a3, a4, a5⟩
    · exact Or.inl a
    · exact Or.inr a
    · rw [show f + 1 + 1 = f + 2 from rfl, a1, a2]
      rcases ih (i + 1) f e x' m' q P' (by omega) (by omega) (by omega) a3 with ⟨r, x2, m2, b1, b2, b3, b4, b5, b6⟩ | ⟨Q, x2, m2, b1, b2, b3, b4, b5⟩
      · exact Or.inl ⟨r, x2, m2, b1, b2, b3, b4, a4.t0 b5, a5.trans b6⟩
      · exact Or.inr ⟨Q, x2, m2, b1, b2, b3, a4.t0 b4, a5.trans b5⟩
end G2

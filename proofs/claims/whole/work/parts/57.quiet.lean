/-! quiet: the class -/
def le2 (a b : Nat × Nat) : Prop := a.1 < b.1 ∨ (a.1 = b.1 ∧ a.2 ≤ b.2)
/-- b is the least of a and of all of P -/
def Best (P : Nat × Nat → Prop) (a b : Nat × Nat) : Prop := (b = a ∨ P b) ∧ le2 b a ∧ ∀ e, P e → le2 b e
theorem le2_rfl (a : Nat × Nat) : le2 a a := Or.inr ⟨rfl, Nat.le_refl _⟩
theorem le2_trans {a b c : Nat × Nat} (h1 : le2 a b) (h2 : le2 b c) : le2 a c := by
  unfold le2 at *; omega
theorem Best.seq {P Q : Nat × Nat → Prop} {a b c : Nat × Nat} (h1 : Best P a b) (h2 : Best Q b c) : Best (fun e => P e ∨ Q e) a c := by
  obtain ⟨p1, p2, p3⟩ := h1
  obtain ⟨q1, q2, q3⟩ := h2
  refine ⟨?_, le2_trans q2 p2, fun e he => ?_⟩
  · rcases q1 with rfl | q1
    · rcases p1 with p1 | p1
      · exact Or.inl p1
      · exact Or.inr (Or.inl p1)
    · exact Or.inr (Or.inr q1)
  · rcases he with he | he
    · exact le2_trans q2 (p3 e he)
    · exact q3 e he
theorem Best.eqv {P Q : Nat × Nat → Prop} {a b : Nat × Nat} (h : ∀ e, P e ↔ Q e) (h1 : Best P a b) : Best Q a b := ⟨h1.1.imp_right (h b).mp, h1.2.1, fun e he => h1.2.2 e ((h e).mpr he)⟩
theorem Best.no {P : Nat × Nat → Prop} {a : Nat × Nat} (h : ∀ e, ¬ P e) : Best P a a := ⟨Or.inl rfl, le2_rfl a, fun e he => absurd he (h e)⟩
/-- the ways' ends: how loud together, how many STEPS -/
def rch (nz : Nat → Nat → Nat) (tm dr t0 : Nat) : Nat → Nat → Nat → Nat → Nat → Nat × Nat → Prop
  | 0, _, _, _, _, _ => False
  | f + 1, b, been, st, tog, e => if b = dr then e = (tog, st) else st < 8 ∧ ∃ o, o < 12 ∧ bes b o = true ∧ tyb (been ||| 2 ^ b) o = 0 ∧ rch nz tm dr t0 f o (been ||| 2 ^ b) (st + 1) (tog + nz o (t0 + (st + 1) * tm)) e
section Q1
variable {L : List Nat} {W : Nat → Nat} {N : Nat → List cls} {x m x' m' m0 : gMem}
def okQ (x x' : gMem) : Prop := (∀ o k, ¬ (o = 32 ∧ (k = 8 ∨ k = 9)) → gI x' o k = gI x o k) ∧ (∀ o k, gJ x' o k = gJ x o k) ∧ ∀ o k, gR x' o k = gR x o k
theorem okQ.rfl {x : gMem} : okQ x x := ⟨fun _ _ _ => Eq.refl _, fun _ _ => Eq.refl _, fun _ _ => Eq.refl _⟩
theorem okQ.trans {x y z : gMem} (h1 : okQ x y) (h2 : okQ y z) : okQ x z := ⟨fun o k h => (h2.1 o k h).trans (h1.1 o k h), fun o k => (h2.2.1 o k).trans (h1.2.1 o k), fun o k => (h2.2.2 o k).trans (h1.2.2 o k)⟩
theorem okQ.ag {x x' : gMem} (h : okQ x x') : agX x x' := ⟨fun o k q => h.1 o k (by omega), fun o k _ => h.2.1 o k, h.2.2⟩
theorem LT.fQ {nz : Nat → Nat → Nat} {dp : Nat → Nat} {tm dr : Nat} (h : LT x nz dp tm dr) (hx : okQ x x') : LT x' nz dp tm dr := h.fr (fun o k q => hx.1 o k (by omega))
theorem x_seek {nz : Nat → Nat → Nat} {dp : Nat → Nat} {tm dr t0 : Nat} (htm : 1 ≤ tm ∧ tm ≤ 2) (hnz : ∀ o t, o < 12 → nz o t ≤ 1030) (hdr : dr < 12) (ht0 : t0 ≤ 30000) (hpn : ∀ o t, nz o (t % 12) = nz o t) : ∀ (f b been st tog : Nat) (x : gMem) (best : Nat × Nat), LT x nz dp tm dr → b < 12 → been ≤ 4095 → f + st = 12 → st ≤ 8 → tog ≤ 1030 * st → gI x 32 8 = nI best.1 → gI x 32 9 = nI best.2 → best.1 ≤ 1000000 → best.2 ≤ 8 → ∃ x' best', f_K L (2 * f) 0 x (nI b) (nI (t0 + st * tm)) (nI (been ||| 2 ^ b)) (nI st) (nI tog) = some x' ∧ okQ x x' ∧ gI x' 32 8 = nI best'.1 ∧ gI x' 32 9 = nI best'.2 ∧ best'.1 ≤ 1000000 ∧ best'.2 ≤ 8 ∧ Best (rch nz tm dr t0 f b been st tog) best best' := by
  intro f
  induction f with
  | zero => intro b been st tog x best _ _ _ h1 h2; omega
  | succ f IH =>
    intro b been st tog x best hL hb hbe h1 h2 h3 h4 h5 h6 h7
    rw [show 2 * (f + 1) = 2 * f + 1 + 1 by omega, f_K, if_pos (show (0 : Nat) = 0 from rfl), b_X10_seekAt, hL.2.1]
    by_cases hd : b = dr
    · subst hd
      rw [if_pos rfl, h4, h5]
      have hP : ∀ e, rch nz tm b t0 (f + 1) b been st tog e ↔ e = (tog, st) := fun e => by unfold rch; rw [if_pos rfl]
      have upd : ∃ x' best', (lt1 (gsI x 32 8 (nI tog)) fun (m3 : gMem) => lt1 (gsI m3 32 9 (nI st)) fun (m4 : gMem) => some m4) = some x' ∧ best' = (tog, st) ∧ okQ x x' ∧ gI x' 32 8 = nI best'.1 ∧ gI x' 32 9 = nI best'.2 ∧ best'.1 ≤ 1000000 ∧ best'.2 ≤ 8 := by
        refine ⟨gsI (gsI x 32 8 (nI tog)) 32 9 (nI st), (tog, st), rfl, rfl, ⟨fun o k q => by rw [gI_n (by omega), gI_n (by omega)], fun _ _ => rfl, fun _ _ => rfl⟩, by rw [gI_n (by omega), gI_y ⟨rfl, rfl⟩], by rw [gI_y ⟨rfl, rfl⟩], ?_, h2⟩
        show tog ≤ 1000000
        omega
      rw [jn_s]
      by_cases hlt : tog < best.1
      · obtain ⟨x', best', e1, rfl, e3⟩ := upd
        refine ⟨x', _, ?_, e3.1, e3.2.1, e3.2.2.1, e3.2.2.2.1, e3.2.2.2.2, Or.inr ((hP _).mpr rfl), Or.inl hlt, fun e he => by rw [(hP e).mp he]; exact le2_rfl _⟩
        rw [if_pos (nI_lt hlt (by omega)), e1]
      · rw [if_neg (nI_nlt (by omega) (by omega))]
        by_cases heq : tog = best.1
        · rw [if_pos (by rw [heq])]
          by_cases hst : best.2 ≤ st
          · refine ⟨x, best, ?_, okQ.rfl, h4, h5, h6, h7, Or.inl rfl, le2_rfl _, fun e he => by rw [(hP e).mp he]; exact Or.inr ⟨heq.symm, hst⟩⟩
            rw [if_pos (nI_le hst (by omega))]
          · obtain ⟨x', best', e1, rfl, e3⟩ := upd
            refine ⟨x', _, ?_, e3.1, e3.2.1, e3.2.2.1, e3.2.2.2.1, e3.2.2.2.2, Or.inr ((hP _).mpr rfl), Or.inr ⟨heq, by dsimp only; omega⟩, fun e he => by rw [(hP e).mp he]; exact le2_rfl _⟩
            rw [if_neg (nI_ge (by omega) (by omega)), e1]
        · refine ⟨x, best, ?_, okQ.rfl, h4, h5, h6, h7, Or.inl rfl, le2_rfl _, fun e he => by rw [(hP e).mp he]; exact Or.inl (by dsimp only; omega)⟩
          rw [if_neg (fun z => heq (nI_inj (by omega) (by omega) z))]
    · rw [if_neg (fun z => hd (nI_inj (by omega) (by omega) z))]
      by_cases h8 : st < 8
      rotate_left
      · refine ⟨x, best, ?_, okQ.rfl, h4, h5, h6, h7, Best.no (fun e he => by unfold rch at he; rw [if_neg hd] at he; exact h8 he.1)⟩
        rw [if_pos (show (8 : Int32) ≤ nI st from nI_le (a := 8) (by omega) (by omega))]
      have hbe' := (setb (T := been) (b := b) hb hbe).2
      rw [if_neg (show ¬ (8 : Int32) ≤ nI st from nI_ge (b := 8) h8 (by decide)), hL.1, nI_add, nI_1, f_K, if_neg (show ¬ (1 : Nat) = 0 by decide), b_X10_seekBeside]
      have ht' : t0 + st * tm + tm = t0 + (st + 1) * tm := by rw [Nat.add_mul, Nat.one_mul, Nat.add_assoc]
      have htb : t0 + (st + 1) * tm ≤ t0 + 18 := by
        have : (st + 1) * tm ≤ 9 * 2 := Nat.mul_le_mul (by omega) htm.2
        omega
      rw [ht']
      generalize hB : been ||| 2 ^ b = been' at *
      have step : ∀ (s : Nat) (x1 : gMem) (b1 : Nat × Nat) (F : Int32 → gMem → Option gMem), s < 3 → okQ x x1 → gI x1 32 8 = nI b1.1 → gI x1 32 9 = nI b1.2 → b1.1 ≤ 1000000 → b1.2 ≤ 8 → ∃ x2 b2, s_X10_seekBeside_3 (nI b) (nI been') L (nI (t0 + (st + 1) * tm)) (f_K L (2 * f)) (nI (st + 1)) (nI tog) F (nI s) x1 = F (nI (s + 1)) x2 ∧ okQ x x2 ∧ gI x2 32 8 = nI b2.1 ∧ gI x2 32 9 = nI b2.2 ∧ b2.1 ≤ 1000000 ∧ b2.2 ≤ 8 ∧ Best (fun e => sdN b s < 12 ∧ tyb been' (sdN b s) = 0 ∧ rch nz tm dr t0 f (sdN b s) been' (st + 1) (tog + nz (sdN b s) (t0 + (st + 1) * tm)) e) b1 b2 := by
        intro s x1 b1 F hs o1 c1 c2 c3 c4
        have hL1 := hL.fQ o1
        unfold s_X10_seekBeside_3
        rw [if_neg (show ¬ (3 : Int32) ≤ nI s from nI_ge (b := 3) hs (by decide)), x_side b hb s hs, bd_s]
        by_cases hsd : sdN b s < 12
        · have hbit := shr (T := been') (b := sdN b s) (by omega) hsd
          have htl := tyb_lt been' (sdN b s)
          rw [if_pos hsd, x_isBoard, if_pos (okN hsd (by decide)), bd_s, jn_s, if_neg (show ¬ (1 : Int32) = 0 by decide), hbit]
          by_cases hv : tyb been' (sdN b s) = 0
          · have hn := x_noiseAt (L := L) hL1 (b := sdN b s) (t := t0 + (st + 1) * tm) hsd (by omega)
            rw [hpn] at hn
            have hnb := hnz (sdN b s) (t0 + (st + 1) * tm) hsd
            obtain ⟨x2, b2, e1, e2, e3, e4, e5, e6, e7⟩ := IH (sdN b s) been' (st + 1) (tog + nz (sdN b s) (t0 + (st + 1) * tm)) x1 b1 hL1 hsd hbe' (by omega) (by omega) (by omega) c1 c2 c3 c4
            refine ⟨x2, b2, ?_, o1.trans e2, e3, e4, e5, e6, e7.eqv (fun e => ⟨fun q => ⟨hsd, hv, q⟩, fun q => q.2.2⟩)⟩
            rw [if_pos (show nI (tyb been' (sdN b s)) = 0 by rw [hv]; rfl), hn, bd_s, nI_add, (setb (T := been') (b := sdN b s) hsd hbe').1, e1, bd_s]
            dsimp only
            rw [lt1_s, nI_1]
          · refine ⟨x1, b1, ?_, o1, c1, c2, c3, c4, Best.no (fun e he => hv he.2.1)⟩
            rw [if_neg (nI_ne0 (by omega) (by omega))]
            dsimp only
            rw [lt1_s, nI_1]
        · refine ⟨x1, b1, ?_, o1, c1, c2, c3, c4, Best.no (fun e he => hsd he.1)⟩
          rw [if_neg hsd, x_isBoard, if_neg (by decide), bd_s, jn_s, if_pos (show (0 : Int32) = 0 from rfl)]
          dsimp only
          rw [lt1_s, nI_1]
      obtain ⟨x1, b1, a1, a2, a3, a4, a5, a6, a7⟩ := step 0 x best (lq2 (s_X10_seekBeside_3 (nI b) (nI been') L (nI (t0 + (st + 1) * tm)) (f_K L (2 * f)) (nI (st + 1)) (nI tog)) 999) (by decide) okQ.rfl h4 h5 h6 h7
      obtain ⟨x2, b2, d1, d2, d3, d4, d5, d6, d7⟩ := step 1 x1 b1 (lq2 (s_X10_seekBeside_3 (nI b) (nI been') L (nI (t0 + (st + 1) * tm)) (f_K L (2 * f)) (nI (st + 1)) (nI tog)) 998) (by decide) a2 a3 a4 a5 a6
      obtain ⟨x3, b3, g1, g2, g3, g4, g5, g6, g7⟩ := step 2 x2 b2 (lq2 (s_X10_seekBeside_3 (nI b) (nI been') L (nI (t0 + (st + 1) * tm)) (f_K L (2 * f)) (nI (st + 1)) (nI tog)) 997) (by decide) d2 d3 d4 d5 d6
      refine ⟨x3, b3, ?_, g2, g3, g4, g5, g6, ((a7.seq d7).seq g7).eqv (fun e => ?_)⟩
      · rw [li0, lq2_u, a1, lq2_u, d1, lq2_u, g1, lq2_u]
        generalize lq2 (s_X10_seekBeside_3 (nI b) (nI been') L (nI (t0 + (st + 1) * tm)) (f_K L (2 * f)) (nI (st + 1)) (nI tog)) 996 = F
        unfold s_X10_seekBeside_3
        rw [if_pos (show (3 : Int32) ≤ nI (2 + 1) by decide), bd_s]
      · rw [rch, if_neg hd, hB]
        constructor
        · rintro ((⟨q1, q2, q3⟩ | ⟨q1, q2, q3⟩) | ⟨q1, q2, q3⟩)
          · exact ⟨h8, _, q1, (sd_bes b hb _ q1).mpr (Or.inl rfl), q2, q3⟩
          · exact ⟨h8, _, q1, (sd_bes b hb _ q1).mpr (Or.inr (Or.inl rfl)), q2, q3⟩
          · exact ⟨h8, _, q1, (sd_bes b hb _ q1).mpr (Or.inr (Or.inr rfl)), q2, q3⟩
        · rintro ⟨-, o, q1, q2, q3, q4⟩
          rcases (sd_bes b hb o q1).mp q2 with rfl | rfl | rfl
          · exact Or.inl (Or.inl ⟨q1, q3, q4⟩)
          · exact Or.inl (Or.inr ⟨q1, q3, q4⟩)
          · exact Or.inr ⟨q1, q3, q4⟩
end Q1

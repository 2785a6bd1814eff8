/-! quiet: both alike -/
def rbv (dr : Nat) : Nat → Nat → Nat → Bool
  | 0, b, _ => b == dr
  | n + 1, b, been => b == dr || (List.range 12).any (fun o => bes b o && (tyb (been ||| 2 ^ b) o == 0 && rbv dr n o (been ||| 2 ^ b)))
theorem rbv_all : ∀ b, b < 12 → ∀ dr, dr < 12 → rbv dr 8 b 0 = true := by decide +kernel
theorem rbv_rch {nz : Nat → Nat → Nat} {tm dr t0 : Nat} (hnz : ∀ o t, o < 12 → nz o t ≤ 1030) : ∀ (n f b been st tog : Nat), rbv dr n b been = true → n + st ≤ 8 → n < f → ∃ e, rch nz tm dr t0 f b been st tog e ∧ e.1 ≤ tog + 1030 * n := by
  intro n
  induction n with
  | zero =>
    intro f b been st tog h h1 h2
    obtain ⟨f, rfl⟩ : ∃ g, f = g + 1 := ⟨f - 1, by omega⟩
    have hb : b = dr := by simpa [rbv] using h
    exact ⟨(tog, st), by rw [rch, if_pos hb], by show tog ≤ _; omega⟩
  | succ n ih =>
    intro f b been st tog h h1 h2
    obtain ⟨f, rfl⟩ : ∃ g, f = g + 1 := ⟨f - 1, by omega⟩
    by_cases hb : b = dr
    · exact ⟨(tog, st), by rw [rch, if_pos hb], by show tog ≤ _; omega⟩
    · rw [rbv] at h
      have hb2 : (b == dr) = false := by simpa using hb
      rw [hb2, Bool.false_or, List.any_eq_true] at h
      obtain ⟨o, ho, hq⟩ := h
      have ho := List.mem_range.mp ho
      simp only [Bool.and_eq_true, beq_iff_eq] at hq
      obtain ⟨q1, q2, q3⟩ := hq
      obtain ⟨e, e1, e2⟩ := ih f o (been ||| 2 ^ b) (st + 1) (tog + nz o (t0 + (st + 1) * tm)) q3 (by omega) (by omega)
      have := hnz o (t0 + (st + 1) * tm) ho
      exact ⟨e, by rw [rch, if_neg hb]; exact ⟨by omega, o, ho, q1, q2, e1⟩, by omega⟩
theorem le2_anti {a b : Nat × Nat} (h1 : le2 a b) (h2 : le2 b a) : a = b := by
  obtain ⟨a1, a2⟩ := a
  obtain ⟨b1, b2⟩ := b
  unfold le2 at *
  simp only [Prod.mk.injEq] at *
  omega
theorem Best.uniq {P : Nat × Nat → Prop} {a b c : Nat × Nat} (h1 : Best P a b) (h2 : Best P a c) : b = c := by
  apply le2_anti
  · rcases h2.1 with h | h
    · rw [h]; exact h1.2.1
    · exact h1.2.2 _ h
  · rcases h1.1 with h | h
    · rw [h]; exact h2.2.1
    · exact h2.2.2 _ h
section Q4
variable {L : List Nat} {W : Nat → Nat} {N : Nat → List cls} {x m x' m' m0 : gMem} {iw kd v T : Nat} {row cr : Nat → Nat}
theorem lay_end (M : MN x m0 N iw kd v row cr T) {t0 dr k : Nat} (hk : k ≤ 7) {i : Nat} (hi : 0 + i = 12) {best : Nat × Nat} {tr sm : Nat → Nat} (A : okL m0 m) (h19 : gI m 19 k = nI i) (hq : QB m best) : ∃ c m' best', c ≤ 0 + 1 + cbd (tr k) 0 * cost (7 - k) ∧ (∀ F, lq2 (s_X12_layQuiet_57 (nI iw)) (c + F) (nI k) m = lq2 (s_X12_layQuiet_57 (nI iw)) F (nI k + -1) m') ∧ okL m0 m' ∧ (∀ j, j ≤ k → gI m' 18 j = gI m 18 j ∧ gI m' 20 j = gI m 20 j) ∧ (∀ j, j < k → gI m' 19 j = gI m 19 j) ∧ QB m' best' ∧ Best (chP (nzG (curP N m0) kd v row cr T) (tmN kd) dr t0 tr sm k i) best best' := by
  have hi2 : i = 12 := by omega
  subst hi2
  have c9 := okN (show k < 9 by omega) (show 9 < 2 ^ 31 by decide)
  refine ⟨1, gsI m 19 k (nI (12 + 1)), best, by simp [cbd], fun F => ?_, A.trans (okL.s18 _ _ _ _ (by omega)), fun j _ => ⟨gI_n (by omega), gI_n (by omega)⟩, fun j hj => gI_n (by omega), hq.fr (gI_n (by omega)) (gI_n (by omega)), Best.no (fun e ⟨o, h1, h2, _⟩ => by omega)⟩
  rw [Nat.add_comm, lq2_u]
  generalize lq2 (s_X12_layQuiet_57 (nI iw)) F = G
  unfold s_X12_layQuiet_57
  rw [if_neg (nI_pos (by omega)), if_pos c9, ixN (by omega), h19, lt1_s, if_pos c9, if_pos c9, nI_1, lt1_s, if_neg (show ¬ nI 12 ≤ 11 by decide), lt1_s]
theorem lay_main (M : MN x m0 N iw kd v row cr T) {t0 dr : Nat} (ht : gI m0 0 1 = nI t0) (ht0 : t0 ≤ 30000) (hd : gI m0 0 4 = nI dr) (hdr : dr < 12) : ∀ (h k : Nat), k + h = 7 → ∀ (d i : Nat), d + i = 12 → ∀ (m : gMem) (best : Nat × Nat) (tr sm : Nat → Nat), okL m0 m → TS m tr sm k → gI m 19 k = nI i → QB m best → ∃ c m' best', c ≤ d + 1 + cbd (tr k) d * cost h ∧ (∀ F, lq2 (s_X12_layQuiet_57 (nI iw)) (c + F) (nI k) m = lq2 (s_X12_layQuiet_57 (nI iw)) F (nI k + -1) m') ∧ okL m0 m' ∧ (∀ j, j ≤ k → gI m' 18 j = gI m 18 j ∧ gI m' 20 j = gI m 20 j) ∧ (∀ j, j < k → gI m' 19 j = gI m 19 j) ∧ QB m' best' ∧ Best (chP (nzG (curP N m0) kd v row cr T) (tmN kd) dr t0 tr sm k i) best best' := by
  have inner : ∀ h, (∀ k, k + h = 7 → k < 7 → ∀ (m : gMem) (best : Nat × Nat) (tr sm : Nat → Nat), okL m0 m → TS m tr sm (k + 1) → gI m 19 (k + 1) = nI 0 → QB m best → ∃ c m' best', c ≤ cost h ∧ (∀ F, lq2 (s_X12_layQuiet_57 (nI iw)) (c + F) (nI (k + 1)) m = lq2 (s_X12_layQuiet_57 (nI iw)) F (nI (k + 1) + -1) m') ∧ okL m0 m' ∧ (∀ j, j ≤ k + 1 → gI m' 18 j = gI m 18 j ∧ gI m' 20 j = gI m 20 j) ∧ (∀ j, j < k + 1 → gI m' 19 j = gI m 19 j) ∧ QB m' best' ∧ Best (chP (nzG (curP N m0) kd v row cr T) (tmN kd) dr t0 tr sm (k + 1) 0) best best') → ∀ k, k + h = 7 → ∀ (d i : Nat), d + i = 12 → ∀ (m : gMem) (best : Nat × Nat) (tr sm : Nat → Nat), okL m0 m → TS m tr sm k → gI m 19 k = nI i → QB m best → ∃ c m' best', c ≤ d + 1 + cbd (tr k) d * cost h ∧ (∀ F, lq2 (s_X12_layQuiet_57 (nI iw)) (c + F) (nI k) m = lq2 (s_X12_layQuiet_57 (nI iw)) F (nI k + -1) m') ∧ okL m0 m' ∧ (∀ j, j ≤ k → gI m' 18 j = gI m 18 j ∧ gI m' 20 j = gI m 20 j) ∧ (∀ j, j < k → gI m' 19 j = gI m 19 j) ∧ QB m' best' ∧ Best (chP (nzG (curP N m0) kd v row cr T) (tmN kd) dr t0 tr sm k i) best best' := by
    intro h down k hk d
    induction d with
    | zero =>
      intro i hi m best tr sm A hT h19 hq
      have := lay_end (dr := dr) (t0 := t0) (tr := tr) (sm := sm) M (k := k) (by omega) hi A h19 hq
      rw [show 7 - k = h by omega] at this
      exact this
    | succ d IH =>
      intro i hi m best tr sm A hT h19 hq
      have hcb : cbd (tr k) (d + 1) = cbd (tr k) d + if bes (tr k) i = true then 1 else 0 := by
        rw [cbd, show 12 - (d + 1) = i by omega]
      rcases lay_turn M ht ht0 hd hdr (show k ≤ 7 by omega) (show i < 12 by omega) A hT h19 hq with ⟨m1, b1, g1, g2, g3, g4, g5, g6, g7, g8⟩ | ⟨m1, k7, hb, g1, g2, g3, g4, g5, g6, g7, g8, g9⟩
      · obtain ⟨c, m', b', e1, e2, e3, e4, e5, e6, e7⟩ := IH (i + 1) (by omega) m1 b1 tr sm g2 g3 g6 g7
        refine ⟨c + 1, m', b', ?_, fun F => ?_, e3, fun j hj => ⟨(e4 j hj).1.trans (g4 j hj).1, (e4 j hj).2.trans (g4 j hj).2⟩, fun j hj => (e5 j hj).trans (g5 j hj), e6, (g8.seq e7).eqv (chP_s (by omega))⟩
        · rw [hcb, Nat.add_mul]; omega
        · rw [show c + 1 + F = (c + F) + 1 by omega, lq2_u, g1, e2]
      · obtain ⟨c1, m2, b2, f1, f2, f3, f4, f5, f6, f7⟩ := down k hk k7 m1 best _ _ g2 g3 g7 g8
        have hT2 : TS m2 tr sm k := fun j hj => by
          rw [(f4 j (by omega)).1, (f4 j (by omega)).2, (g4 j hj).1, (g4 j hj).2]
          exact hT j hj
        obtain ⟨c, m', b', e1, e2, e3, e4, e5, e6, e7⟩ := IH (i + 1) (by omega) m2 b2 tr sm f3 hT2 ((f5 k (by omega)).trans g6) f6
        refine ⟨c1 + c + 1, m', b', ?_, fun F => ?_, e3, fun j hj => ⟨((e4 j hj).1.trans (f4 j (by omega)).1).trans (g4 j hj).1, ((e4 j hj).2.trans (f4 j (by omega)).2).trans (g4 j hj).2⟩, fun j hj => ((e5 j hj).trans (f5 j (by omega))).trans (g5 j hj), e6, ((f7.eqv g9).seq e7).eqv (chP_s (by omega))⟩
        · rw [hcb, if_pos hb, Nat.add_mul, Nat.one_mul]; omega
        · rw [show c1 + c + 1 + F = (c1 + (c + F)) + 1 by omega, lq2_u, g1, f2, pk_m1, e2]
  intro h
  induction h with
  | zero => exact inner 0 (fun k h1 h2 => by omega)
  | succ h IHh =>
    refine inner (h + 1) (fun k h1 h2 m best tr sm A hT h19 hq => ?_)
    obtain ⟨c, m', b', e1, e2, e3, e4, e5, e6, e7⟩ := IHh (k + 1) (by omega) 12 0 rfl m best tr sm A hT h19 hq
    refine ⟨c, m', b', ?_, e2, e3, e4, e5, e6, e7⟩
    have h3 := cbd_3 _ (hT (k + 1) (Nat.le_refl _)).1.2
    have h4 := Nat.mul_le_mul_right (cost h) h3
    have h5 : cost (h + 1) = 13 + 3 * cost h := rfl
    omega
end Q4

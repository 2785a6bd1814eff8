/-! quiet: the call -/
section Q5
variable {L : List Nat} {W : Nat → Nat} {N : Nat → List cls} {x m x' m' m0 : gMem} {iw kd v T : Nat} {row cr : Nat → Nat}
theorem m_layQuiet (M : MN x m0 N iw kd v row cr T) {t0 dr b : Nat} (eb : gI m0 4 iw = nI b) (hb : b < 12) (ht : gI m0 0 1 = nI t0) (ht0 : t0 ≤ 30000) (hd : gI m0 0 4 = nI dr) (hdr : dr < 12) : ∃ m' best', f_X12_layQuiet m0 (nI iw) = some m' ∧ okL m0 m' ∧ QB m' best' ∧ Best (rch (nzG (curP N m0) kd v row cr T) (tmN kd) dr t0 12 b 0 0 0) (1000000, 0) best' := by
  have hi4 := M.2.2.1
  have c9 := okN (show 0 < 9 by omega) (show 9 < 2 ^ 31 by decide)
  have c4 := okN hi4 (show 4 < 2 ^ 31 by decide)
  obtain ⟨m5, hm5⟩ : ∃ m5, m5 = gsI (gsI (gsI (gsI (gsI m0 0 39 (-1 : Int32)) 0 40 (nI 0)) 18 0 (nI b)) 20 0 (nI 0)) 19 0 (nI 0) := ⟨_, rfl⟩
  have A : okL m0 m5 := by
    rw [hm5]
    exact ⟨fun o c p q r => by rw [gI_n (by omega), gI_n (by omega), gI_n (by omega), gI_n (by omega), gI_n (by omega)], fun _ _ => rfl, fun _ _ => rfl⟩
  have g18 : gI m5 18 0 = nI b := by rw [hm5, gI_n (by omega), gI_n (by omega), gI_y ⟨rfl, rfl⟩]
  have g20 : gI m5 20 0 = nI 0 := by rw [hm5, gI_n (by omega), gI_y ⟨rfl, rfl⟩]
  have g19 : gI m5 19 0 = nI 0 := by rw [hm5, gI_y ⟨rfl, rfl⟩]
  have hq : QB m5 (1000000, 0) := Or.inl ⟨rfl, by rw [hm5, gI_n (by omega), gI_n (by omega), gI_n (by omega), gI_n (by omega), gI_y ⟨rfl, rfl⟩]⟩
  have e4 : gI (gsI (gsI m0 0 39 (-1 : Int32)) 0 40 (nI 0)) 4 iw = nI b := by rw [gI_n (by omega), gI_n (by omega)]; exact eb
  have e5 : gI m5 4 iw = nI b := by rw [A.1 _ _ (by omega) (by omega) (by omega)]; exact eb
  have e6 : gI m5 0 4 = nI dr := by rw [A.1 _ _ (by omega) (by omega) (by omega)]; exact hd
  have head : ∀ R, (if nI b = nI dr then (bd (f_X12_found m5 (nI 0)) fun (m25 : gMem) => some m25) else lq2 (s_X12_layQuiet_57 (nI iw)) 1000000 (nI 0) m5) = R → f_X12_layQuiet m0 (nI iw) = R := by
    intro R h
    rw [← h]
    unfold f_X12_layQuiet
    rw [li0, lt1_s, lt1_s, if_pos c4, if_pos c9, ixN (show iw < 2 ^ 31 by omega), ixN (show 0 < 2 ^ 31 by omega), e4, lt1_s, if_pos c9, lt1_s, if_pos c9, lt1_s, if_pos c4, ← hm5, e5, e6]
  have hT : TS m5 (fun _ => b) (fun _ => 0) 0 := fun j hj => by
    have : j = 0 := by omega
    subst this
    exact ⟨⟨g18, hb⟩, g20, by omega⟩
  by_cases hbd : b = dr
  · obtain ⟨m', best', f1, f2, f3, f4, f5, f6⟩ := m_found (m := m5) (k := 0) (s := 0) (best := (1000000, 0)) (by omega) (by omega) g20 hq
    refine ⟨m', best', head _ ?_, A.trans ⟨fun o c _ _ q => f2 o c q, f3, f4⟩, f5, f6.eqv (fun e => ?_)⟩
    · rw [if_pos (by rw [hbd]), f1, bd_s]
    · rw [show (12 : Nat) = 11 + 1 from rfl, rch, if_pos hbd]
  · obtain ⟨c, m', best', a1, a2, a3, -, -, a6, a7⟩ := lay_main M ht ht0 hd hdr 7 0 rfl 12 0 rfl m5 (1000000, 0) (fun _ => b) (fun _ => 0) A hT g19 hq
    have hcb : cbd b 12 ≤ 3 := cbd_3 b hb
    have hc7 : cost 7 = 14209 := rfl
    rw [hc7] at a1
    have hcc : c ≤ 42640 := by
      have := Nat.mul_le_mul_right 14209 hcb
      have a1 : c ≤ 12 + 1 + cbd b 12 * 14209 := a1
      omega
    obtain ⟨F, hF⟩ : ∃ F, (1000000 : Nat) = c + (F + 1) := ⟨1000000 - c - 1, by omega⟩
    refine ⟨m', best', head _ ?_, a3, a6, a7.eqv (fun e => ?_)⟩
    · rw [if_neg (fun z => hbd (nI_inj (by omega) (by omega) z)), hF, a2, lq2_u]
      generalize lq2 (s_X12_layQuiet_57 (nI iw)) F = G
      unfold s_X12_layQuiet_57
      rw [if_pos (show nI 0 + -1 < (0 : Int32) by decide)]
    · rw [show (12 : Nat) = 11 + 1 from rfl, rch, if_neg hbd]
      unfold chP
      have hbn : bnT (fun _ => b) (0 + 1) = 0 ||| 2 ^ b := rfl
      rw [hbn]
      constructor
      · rintro ⟨o, -, q⟩
        exact ⟨by omega, o, q⟩
      · rintro ⟨-, o, q⟩
        exact ⟨o, Nat.zero_le _, q⟩
end Q5

/-! a NIGHT -/
section O1
variable {L : List Nat} {W : Nat → Nat} {N : Nat → List cls} {x m x1 m1 : gMem} {n : Nat}
theorem night_keep (H : Rel L W N x m) (hn : n < 6) (e11 : gI m 0 11 = nI n) (hx : ∀ o k, ¬ (o = 30 ∧ (k = 1 ∨ k = 2)) → ¬ (60 + 5 * n ≤ o ∧ o ≤ 64 + 5 * n) → gI x1 o k = gI x o k) (hj : ∀ o k, gJ x1 o k = gJ x o k) (hr : ∀ o k, ¬ (o = 30 ∧ k = 3) → gR x1 o k = gR x o k) (hm : ∀ o k, ¬ (o = 0 ∧ (k = 13 ∨ k = 14 ∨ k = 15 ∨ k = 24 ∨ k = 25 ∨ k = 26)) → o ≠ 13 → ¬ (o = 12 ∧ 100 * n ≤ k) → ¬ (8 ≤ o ∧ o ≤ 11 ∧ 10 * n ≤ k) → ¬ (o = 7 ∧ k = n) → gI m1 o k = gI m o k) (hmj : ∀ o k, gJ m1 o k = gJ m o k) (e1 : gI x1 30 1 = nI 0) (e2 : gI m1 0 13 = nI 0) : Rel L W N x1 m1 := by
  obtain ⟨hO, hW, hA, hT, hN, hC, hX, hM, hI⟩ := H
  have M : ∀ o k, (o = 0 ∧ ¬ (k = 13 ∨ k = 14 ∨ k = 15 ∨ k = 24 ∨ k = 25 ∨ k = 26)) ∨ (1 ≤ o ∧ o ≤ 6) ∨ 14 ≤ o → gI m1 o k = gI m o k := fun o k h => hm o k (by omega) (by omega) (by omega) (by omega) (by omega)
  have X : ∀ o k, (o < 60 ∧ ¬ (o = 30 ∧ (k = 1 ∨ k = 2))) ∨ 90 ≤ o → gI x1 o k = gI x o k := fun o k h => hx o k (by omega) (by omega)
  refine ⟨hO.fr (fun o k q => X o k (by omega)) (fun o k q => M o k (by omega)), hW.fr (fun o k p q => X o k (by omega)) (fun k => hr _ _ (by omega)) (fun o k q => M o k (by omega)), hA.fr (fun o k p q => X o k (by omega)) (hr _ _ (by omega)) (fun o k q => M o k (by omega)), hT.fr (fun o k q => X o k (by omega)) (fun k => hr _ _ (by omega)) (fun o k p q => hj o k) (fun o k q => M o k (by omega)) (fun k => hmj _ _), ?_, hC.fr (hr _ _ (by omega)) (M _ _ (by omega)) (M _ _ (by omega)), ?_, hM.fr (X _ _ (by omega)) (M _ _ (by omega)) (M _ _ (by omega)), hI.fr hW (fun o k q => X o k (by omega)) (hr _ _ (by omega)) (fun o k q => M o k (by omega))⟩
  · obtain ⟨a1, a2, k, a3, a4, a5⟩ := hN
    obtain rfl : n = k := nI_inj (by omega) (by omega) (e11.symm.trans a4)
    refine ⟨by rw [X _ _ (by omega), M _ _ (by omega)]; exact a1, fun g hg => by rw [hr _ _ (by omega)]; exact a2 g hg, n, a3, by rw [M _ _ (by omega)]; exact a4, fun g hg => ?_⟩
    obtain ⟨b1, b2, b3, b4, b5⟩ := a5 g hg
    refine ⟨by rw [hx _ _ (by omega) (by omega)]; exact b1, by rw [hm _ _ (by omega) (by omega) (by omega) (by omega) (by omega)]; exact b2, b3, b4, nOK.up _ 0 0 b5 ?_ ?_ ?_ ?_⟩
    · intro o k c1 c2 c3; exact hx _ _ (by omega) (by omega)
    · intro k c1; exact hx _ _ (by omega) (by omega)
    · intro o k c1 c2 c3; exact hm _ _ (by omega) (by omega) (by omega) (by omega) (by omega)
    · intro k c1; exact hm _ _ (by omega) (by omega) (by omega) (by omega) (by omega)
  · obtain ⟨a1, a2, a3, a4⟩ := hX
    refine ⟨⟨0, by omega, e2⟩, e1.trans e2.symm, fun k hk => ?_, fun k hk => by rw [M _ _ (by omega)]; exact a4 k hk⟩
    rw [X _ _ (by omega), M _ _ (by omega)]
    exact a3 k hk
theorem night_new {P : List cls} {x2 m2 : gMem} (H : Rel L W N x1 m1) (hn : n < 6) (e11 : gI m1 0 11 = nI n) (hP : ntOK x1 m1 n P) (hx : ∀ o k, ¬ (o = 0 ∧ k = 5) → gI x2 o k = gI x1 o k) (e5 : gI x2 0 5 = nI (n + 1)) (hj : ∀ o k, gJ x2 o k = gJ x1 o k) (hr : ∀ o k, ¬ (o = 10 ∧ k = 15) → gR x2 o k = gR x1 o k) (er : gR x2 10 15 = some (60 + 5 * n)) (hm : ∀ o k, ¬ (o = 0 ∧ (k = 11 ∨ k = 12)) → gI m2 o k = gI m1 o k) (f11 : gI m2 0 11 = nI (n + 1)) (f12 : gI m2 0 12 = nI n) (hmj : ∀ o k, gJ m2 o k = gJ m1 o k) : Rel L W (fun g => if g = n then P else N g) x2 m2 := by
  obtain ⟨hO, hW, hA, hT, hN, hC, hX, hM, hI⟩ := H
  refine ⟨hO.fr (fun o k q => hx o k (by omega)) (fun o k q => hm o k (by omega)), hW.fr (fun o k p q => hx o k (by omega)) (fun k => hr _ _ (by omega)) (fun o k q => hm o k (by omega)), hA.fr (fun o k p q => hx o k (by omega)) (hr _ _ (by omega)) (fun o k q => hm o k (by omega)), hT.fr (fun o k q => hx o k (by omega)) (fun k => hr _ _ (by omega)) (fun o k p q => hj o k) (fun o k q => hm o k (by omega)) (fun k => hmj _ _), ?_, Or.inr ⟨n, n + 1, by omega, by omega, f11, f12, er⟩, hX.fr (fun o k q => hx o k (by omega)) (fun o k q => hm o k (by omega)), hM.fr (hx _ _ (by omega)) (hm _ _ (by omega)) (hm _ _ (by omega)), ?_⟩
  · obtain ⟨a1, a2, k, a3, a4, a5⟩ := hN
    obtain rfl : n = k := nI_inj (by omega) (by omega) (e11.symm.trans a4)
    have fr : ∀ {g Q}, g < 6 → ntOK x1 m1 g Q → ntOK x2 m2 g Q := by
      intro g Q hg h
      obtain ⟨b1, b2, b3, b4, b5⟩ := h
      refine ⟨by rw [hx _ _ (by omega)]; exact b1, by rw [hm _ _ (by omega)]; exact b2, b3, b4, nOK.fr hg (fun o k p q _ => hx o k (by omega)) (fun o k p q => hm o k (by omega)) _ _ _ b5⟩
    refine ⟨e5.trans f11.symm, fun g hg => by rw [hr _ _ (by omega)]; exact a2 g hg, n + 1, by omega, f11, fun g hg => ?_⟩
    dsimp only
    by_cases z : g = n
    · rw [if_pos z, z]; exact fr hn hP
    · rw [if_neg z]; exact fr (by omega) (a5 g (by omega))
  · intro h47
    rw [hm _ _ (by omega)] at h47
    obtain ⟨ni, k, h1, h2, h3, h33, h4, h5, h6⟩ := hI h47
    have a3 := hW.w h2 h33
    refine ⟨ni, k, (hm _ _ (by omega)).trans h1, (hm _ _ (by omega)).trans h2, h3, h33, h4.fi (fun o k q => hx o k (by omega)) (fun o k q => hm o k (by omega)), WI.fr (fun i hi => ⟨(a3.1 i (by omega)).1.1, (a3.1 i (by omega)).1.2.1⟩) h5 (fun o k p q r => hx o k (by omega)) (fun o k p q => hm o k (by omega)), ?_⟩
    rcases h6 with ⟨c1, c2⟩ | ⟨g, j, c1, c2, c3, c4, c5⟩
    · exact Or.inl ⟨(hm _ _ (by omega)).trans c1, (hr _ _ (by omega)).trans c2⟩
    · have : n = j := nI_inj (by omega) (by omega) (e11.symm.trans c3)
      exact Or.inr ⟨g, n + 1, by omega, by omega, f11, (hm _ _ (by omega)).trans c4, (hr _ _ (by omega)).trans c5⟩
theorem op_night (H : Rel L W N x m) : ∃ N', Op L W N' (f_X11_night L x) (f_X12_night m) := by
  have H0 := H
  obtain ⟨hO, hW, hA, hT, ⟨a1, a2, n, a3, a4, a5⟩, hC, ⟨⟨len, t1, t2⟩, t3, t4, t5⟩, hM, hI⟩ := H0
  unfold f_X11_night f_X12_night
  rw [a1, a4]
  by_cases hn : n < 6
  rotate_left
  · obtain rfl : n = 6 := by omega
    refine ⟨N, -4, x, m, ?_, ?_, H⟩
    · rw [if_neg (show ¬ nI 6 < (0 : Int32) by decide), if_neg (show ¬ nI 6 < (6 : Int32) by decide)]
    · rw [if_pos (show nI 6 = (6 : Int32) by decide)]
  have hg : isN (60 + 5 * n) := by
    have : n = 0 ∨ n = 1 ∨ n = 2 ∨ n = 3 ∨ n = 4 ∨ n = 5 := by omega
    rcases this with h | h | h | h | h | h <;> rw [h] <;> decide
  rw [if_neg (nI_pos (by omega)), if_pos (show nI n < (6 : Int32) from by rw [i_lt, nI_toInt (by omega)]; show (n : Int) < 6; omega), if_pos (okN hn (by decide)), ixN (by omega), a2 n hn, oc_s, if_pos hg, if_neg (show ¬ nI n = (6 : Int32) from fun y => by have : n = 6 := nI_inj (by omega) (by decide) y; omega)]
  unfold f_X4_readNight f_X12_goesText f_X3_clear
  have hx0 : ∃ x0, x0 = gsI (gsI (gsR (gsI x 30 2 0) 30 3 (some (60 + 5 * n))) (60 + 5 * n) 0 0) (60 + 5 * n) 5 0 := ⟨_, rfl⟩
  obtain ⟨x0, hx0⟩ := hx0
  have hm0 : ∃ m0, m0 = gsI (gsI m 0 14 0) 0 24 (nI (100 * n)) := ⟨_, rfl⟩
  obtain ⟨m0, hm0⟩ := hm0
  have hj : ∀ y : gMem, (fun (m32 : gMem) => if (gI m32 30 2) = (gI m32 30 1) then (some ((-5 : Int32), m32)) else some ((gI m32 30 2), m32)) y = if gI y 30 2 = gI y 30 1 then (some ((-5 : Int32), y)) else some (gI y 30 2, y) := fun _ => rfl
  rw [oc_s, if_pos hg, lt1_s, lt1_s, gR_y ⟨rfl, rfl⟩, oc_s, if_pos hg, lt1_s, lt1_s, ← hx0, bd_s, jn_s, lt1_s, lt1_s, li100, pk_mul, ← hm0]
  have X0 : ∀ o k, ¬ (o = 30 ∧ k = 2) → ¬ (o = 60 + 5 * n ∧ (k = 0 ∨ k = 5)) → gI x0 o k = gI x o k := fun o k c1 c2 => by
    rw [hx0, gI_n (by omega), gI_n (by omega), gI_sR, gI_n (by omega)]
  have M0 : ∀ o k, ¬ (o = 0 ∧ (k = 14 ∨ k = 24)) → gI m0 o k = gI m o k := fun o k c1 => by
    rw [hm0, gI_n (by omega), gI_n (by omega)]
  have XR : ∀ o k, ¬ (o = 30 ∧ k = 3) → gR x0 o k = gR x o k := fun o k c1 => by
    rw [hx0]
    show gR (gsR (gsI x 30 2 0) 30 3 (some (60 + 5 * n))) o k = _
    rw [gR_n c1]; rfl
  have hL : NL (fun k => (gI m 6 k).toInt.toNat) len n 0 x0 m0 0 [] := by
    have tx : ∀ k, k < len → gI m 6 k = nI (gI m 6 k).toInt.toNat ∧ (gI m 6 k).toInt.toNat ≤ 127 := fun k hk => by
      obtain ⟨c, c1, c2⟩ := (t4 k (by omega)).2
      rw [c2, nI_toInt (by omega)]
      exact ⟨rfl, c1⟩
    refine ⟨⟨?_, t1, fun k hk => ⟨?_, (tx k hk).2⟩⟩, ?_, Nat.zero_le _, ?_, ?_, Nat.le_refl _, ?_, rfl, ⟨?_, t1, fun k hk => ⟨?_, (tx k hk).2⟩⟩, ?_, ?_, fun k hk => ?_, trivial⟩
    · rw [X0 _ _ (by omega) (by omega), t3, t2]
    · rw [X0 _ _ (by omega) (by omega), (t4 k (by omega)).1]; exact (tx k hk).1
    · rw [hx0, gI_n (by omega), gI_n (by omega), gI_sR, gI_y ⟨rfl, rfl⟩]; rfl
    · rw [hx0]; exact gR_y ⟨rfl, rfl⟩
    · rw [hx0, gI_y ⟨rfl, rfl⟩]; rfl
    · rw [hx0, gI_n (by omega), gI_y ⟨rfl, rfl⟩]; rfl
    · rw [M0 _ _ (by omega), t2]
    · rw [M0 _ _ (by omega)]; exact (tx k hk).1
    · rw [hm0, gI_n (by omega), gI_y ⟨rfl, rfl⟩]; rfl
    · rw [hm0, gI_y ⟨rfl, rfl⟩]; rfl
    · rw [M0 _ _ (by omega)]; exact t5 k hk
  rcases n_loop (L := L) hj hn 9 0 999 1000 x0 m0 0 [] rfl (by decide) (by decide) hL with ⟨q, x2, m2, c1, c2, c3, c4, c5, c6⟩ | ⟨P, x2, m2, c1, c2, c3, c5, c6⟩
  all_goals have HR : Rel L W N (gsI x2 30 1 0) (gsI m2 0 13 0) := night_keep H hn a4 (fun o k u1 u2 => by rw [gI_n (by omega), c5.1 _ _ (by omega) (by omega) (by omega) (by omega), X0 _ _ (by omega) (by omega)]) (fun o k => (c5.2.1 o k).trans (by rw [hx0]; rfl)) (fun o k u => (c5.2.2 o k).trans (XR o k u)) (fun o k u1 u2 u3 u4 u5 => by rw [gI_n (by omega), c6.1 _ _ (by omega) u2 u3 u4 u5, M0 _ _ (by omega)]) (fun o k => (c6.2.1 o k).trans (by rw [hm0]; rfl)) (gI_y ⟨rfl, rfl⟩) (gI_y ⟨rfl, rfl⟩)
  · have nq : ¬ nI q = (-5 : Int32) := fun y => by
      have := congrArg Int32.toInt y
      rw [nI_toInt (by omega)] at this
      have e : (-5 : Int32).toInt = -5 := rfl
      omega
    refine ⟨N, -10 - nI q, _, _, ?_, ?_, HR⟩
    · rw [show lq3 (s_X4_readNight_27 _ L) 1000 (1 : Int32) (0 : Int32) x0 = some (nI q, x2) from c1, bd2_s, lt1_s, if_neg nq]
    · rw [show lq2 (s_X12_goesText_15 (nI n)) 1000 (0 : Int32) m0 = some (0, m2) from c2, bd2_s, lt1_s, if_pos rfl, gI_n (by omega), c4]
  · have e11 : gI (gsI m2 0 13 0) 0 11 = nI n := by rw [gI_n (by omega), c6.1 _ _ (by omega) (by omega) (by omega) (by omega) (by omega), M0 _ _ (by omega), a4]
    have e05 : gI (gsI x2 30 1 0) 0 5 = nI n := by rw [gI_n (by omega), c5.1 _ _ (by omega) (by omega) (by omega) (by omega), X0 _ _ (by omega) (by omega), a1, a4]
    have er : gR (gsI x2 30 1 0) 2 n = some (60 + 5 * n) := (c5.2.2 2 n).trans ((XR 2 n (by omega)).trans (a2 n hn))
    have hP : ntOK (gsI x2 30 1 0) (gsI m2 0 13 0) n P := by
      obtain ⟨b1, b2, b3, b4, b5⟩ := c3
      exact ⟨by rw [gI_n (by omega)]; exact b1, by rw [gI_n (by omega)]; exact b2, b3, b4, nOK.fr hn (fun o k p q _ => gI_n (by omega)) (fun o k p q => gI_n (by omega)) _ _ _ b5⟩
    refine ⟨_, nI n, gsI (gsR (gsI x2 30 1 0) 10 15 (some (60 + 5 * n))) 0 5 (nI (n + 1)), gsI (gsI (gsI m2 0 13 0) 0 12 (nI n)) 0 11 (nI (n + 1)), ?_, ?_, night_new HR hn e11 hP (fun o k u => by rw [gI_n u, gI_sR]) (gI_y ⟨rfl, rfl⟩) (fun _ _ => rfl) (fun o k u => by
      show gR (gsR (gsI x2 30 1 0) 10 15 (some (60 + 5 * n))) o k = _
      rw [gR_n u]) (gR_y ⟨rfl, rfl⟩) (fun o k u => by rw [gI_n (by omega), gI_n (by omega)]) (gI_y ⟨rfl, rfl⟩) (by rw [gI_n (by omega), gI_y ⟨rfl, rfl⟩]) (fun _ _ => rfl)⟩
    · rw [show lq3 (s_X4_readNight_27 _ L) 1000 (1 : Int32) (0 : Int32) x0 = some (-5, x2) from c1, bd2_s, lt1_s, if_pos rfl, e05, if_pos (okN hn (by decide)), ixN (by omega), er, lt1_s, gI_sR, e05, nI_1, lt1_s, gI_y ⟨rfl, rfl⟩, show nI (n + 1) - 1 = nI n from pk_sub (a := n + 1) (b := 1) (by omega)]
    · rw [show lq2 (s_X12_goesText_15 (nI n)) 1000 (0 : Int32) m0 = some (1, m2) from c2, bd2_s, lt1_s, if_neg (show ¬ (1 : Int32) = 0 by decide), e11, lt1_s, gI_n (by omega), e11, nI_1, lt1_s, gI_n (by omega), gI_y ⟨rfl, rfl⟩]
end O1

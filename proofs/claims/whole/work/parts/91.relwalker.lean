/-! a WALKER more: the two memories still say the same -/
section RW
variable {L L' : List Nat} {W : Nat → Nat} {N : Nat → List cls} {x m xN : gMem} {n q k : Nat} {p1 p2 : Int32}
theorem hou_cnt (h : HO x m 10 fC fC) {v : Int32} (hr : rg v 4) : HO (gsI x 10 3 v) (gsI m 0 0 v) 10 fC fC := by
  have b : Nat := 0
  unfold HO HS HA HR fC at *
  obtain ⟨⟨s1, s2, s3, s4, s5, s6, s7, s8, s9⟩, ⟨a1, a2, a3, a4, a5, a6⟩, r1, r2, r3, r4, r5, r6, r7, r8, r9, r10, r11, r12, r13, r14, r15⟩ := h
  refine ⟨⟨?_, ?_, ?_, ?_, ?_, ?_, ?_, ?_, ?_⟩, ⟨?_, ?_, ?_, ?_, ?_, ?_⟩, ?_, ?_, ?_, ?_, ?_, ?_, ?_, ?_, ?_, ?_, ?_, ?_, ?_, ?_, ?_⟩ <;> (try simp (disch := omega) only [gI_sI, true_and, if_pos, if_neg]) <;> first | assumption | rfl | exact hr | exact hr2 | (intro k hk; by_cases hkb : k = b <;> (try simp (disch := omega) only [true_and, if_pos, if_neg]) <;> first | rfl | exact hr | exact hr2 | exact hr3 | exact hr4 | exact Or.inr hr | exact a1 k hk | exact a2 k hk | exact a3 k hk | exact a4 k hk | exact a5 k hk | exact a6 k hk | exact r10 k hk | exact r11 k hk | exact r12 k hk | exact r13 k hk | exact r14 k hk | exact r15 k hk)
theorem rgN {p : Int32} {B : Nat} (h : okI p (B + 1)) (hB : B < 1000) : rg p B := by
  have := h.1
  have := h.2
  exact ⟨p.toInt.toNat, by omega, nI_tI h.1⟩
theorem rel_walker (H : Rel L W N x m) (hz : gZ L x) (hB : ∀ o ∈ L, o < 128 + 32 * q) (hn : n < 4) (en : gI m 0 0 = nI n) (hk : k < 7) (h1 : okI p1 10) (h2 : okI p2 12) (hW : WNw n q k p1 p2 x L xN L') : Rel L' (fun i => if i = n then wnr q k else W i) N (mWz xN n q k) (gsI (mWk m n (nI k) p1 p2) 0 0 (nI (n + 1))) := by
  obtain ⟨hO, hWN, hA, hT, hN, hC, hX, hM, hI⟩ := H
  have hv : wnr q k = 128 + 32 * q + 4 * k := rfl
  have hwL : ∀ j, j < 4 → wnr q k + j ∉ L := fun j hj z => by have := hB _ z; omega
  obtain ⟨w0, w1, w2, wf, w3, wJ, wR, wu, m0, m1, m6, -, -, -, -, r4, r6⟩ := hW
  generalize hx' : mWz xN n q k = x'
  generalize hm' : gsI (mWk m n (nI k) p1 p2) 0 0 (nI (n + 1)) = m'
  generalize hw : wnr q k = w at *
  have Xf : ∀ o c, o ≠ w → ¬ (o = 10 ∧ c = 3) → gI x' o c = gI x o c := fun o c a b => by rw [← hx']; unfold mWz; rw [gI_n b, gI_sR]; exact wf o c a
  have Xw : ∀ c, gI x' w c = gI xN w c := fun c => by rw [← hx']; unfold mWz; rw [gI_n (by omega), gI_sR]
  have X3 : gI x' 10 3 = nI (n + 1) := by rw [← hx']; exact gI_y ⟨rfl, rfl⟩
  have XJ : ∀ o c, gJ x' o c = gJ x o c := fun o c => by rw [← hx']; exact wJ o c
  have XR : ∀ o c, o ≠ w → ¬ (o = 1 ∧ c = n) → gR x' o c = gR x o c := fun o c a b => by
    rw [← hx']; show gR (gsR xN 1 n (some (wnr q k))) o c = _; rw [gR_n b]; exact wR o c a
  have XR1 : gR x' 1 n = some w := by rw [← hx', ← hw]; exact gR_y ⟨rfl, rfl⟩
  have Mf : ∀ o c, ¬ (o = 0 ∧ c = 0) → ¬ (2 ≤ o ∧ o ≤ 4 ∧ c = n) → ¬ (o = 5 ∧ 4 * n ≤ c ∧ c < 4 * n + 4) → gI m' o c = gI m o c := fun o c a b d => by
    rw [← hm']; unfold mWk
    rw [gI_n a, gI_n (by omega), gI_n (by omega), gI_n (by omega), gI_n (by omega), gI_n (by omega), gI_n (by omega), gI_n (by omega)]
  have MJ : ∀ o c, gJ m' o c = gJ m o c := fun o c => by rw [← hm']; rfl
  have M0 : gI m' 0 0 = nI (n + 1) := by rw [← hm']; exact gI_y ⟨rfl, rfl⟩
  have M2 : gI m' 2 n = nI k := by rw [← hm']; unfold mWk; rw [gI_n (by omega), gI_n (by omega), gI_n (by omega), gI_n (by omega), gI_n (by omega), gI_n (by omega), gI_n (by omega), gI_y ⟨rfl, rfl⟩]
  have M3 : gI m' 3 n = p1 := by rw [← hm']; unfold mWk; rw [gI_n (by omega), gI_n (by omega), gI_n (by omega), gI_n (by omega), gI_n (by omega), gI_n (by omega), gI_y ⟨rfl, rfl⟩]
  have M4 : gI m' 4 n = p2 := by rw [← hm']; unfold mWk; rw [gI_n (by omega), gI_n (by omega), gI_n (by omega), gI_n (by omega), gI_n (by omega), gI_y ⟨rfl, rfl⟩]
  have M5 : ∀ j, j < 4 → gI m' 5 (4 * n + j) = nI 0 := fun j hj => by
    rw [← hm']; unfold mWk
    rw [gI_n (by omega)]
    rcases (show j = 0 ∨ j = 1 ∨ j = 2 ∨ j = 3 by omega) with h | h | h | h <;> subst h
    · rw [gI_n (by omega), gI_n (by omega), gI_n (by omega), gI_y ⟨rfl, rfl⟩]; rfl
    · rw [gI_n (by omega), gI_n (by omega), gI_y ⟨rfl, rfl⟩]; rfl
    · rw [gI_n (by omega), gI_y ⟨rfl, rfl⟩]; rfl
    · rw [gI_y ⟨rfl, rfl⟩]; rfl
  have hw128 : 128 ≤ w := by omega
  have hw4 : w % 4 = 0 := by omega
  obtain ⟨n1, hn1, en1, hK⟩ := hWN
  obtain rfl : n = n1 := nI_inj (by omega) (by omega) (en.symm.trans en1)
  have hWi : ∀ i, i < n → W i ≠ w ∧ W i + 1 ≠ w ∧ W i + 2 ≠ w ∧ W i + 3 ≠ w := fun i hi => by
    have a := (hK.1 i hi).1
    have b := hB _ a.2.2.2.1
    have c := a.2.1
    omega
  refine ⟨?_, ⟨n + 1, by omega, M0, ?_, ?_⟩, ?_, hT.fr (fun o c q => Xf o c (by omega) (by omega)) (fun c => XR _ _ (by omega) (by omega)) (fun o c p q => XJ o c) (fun o c q => Mf o c (by omega) (by omega) (by omega)) (fun c => MJ _ _), hN.fr (fun o c q => Xf o c (by omega) (by omega)) (fun c => XR _ _ (by omega) (by omega)) (fun o c q => Mf o c (by omega) (by omega) (by omega)), hC.fr (XR _ _ (by omega) (by omega)) (Mf _ _ (by omega) (by omega) (by omega)) (Mf _ _ (by omega) (by omega) (by omega)), hX.fr (fun o c q => Xf o c (by omega) (by omega)) (fun o c q => Mf o c (by omega) (by omega) (by omega)), hM.fr (Xf _ _ (by omega) (by omega)) (Mf _ _ (by omega) (by omega) (by omega)) (Mf _ _ (by omega) (by omega) (by omega)), ?_⟩
  · have hO1 : HO (gsI x' 10 3 (gI x 10 3)) (gsI m' 0 0 (gI m 0 0)) 10 fC fC := hO.fr (fun o c q => by
      by_cases z : o = 10 ∧ c = 3
      · rw [gI_y z, z.1, z.2]
      · rw [gI_n z, Xf o c (by omega) z]) (fun o c q => by
      by_cases z : o = 0 ∧ c = 0
      · rw [gI_y z, z.1, z.2]
      · rw [gI_n z, Mf o c z (by omega) (by omega)])
    refine (hou_cnt hO1 (v := nI (n + 1)) ⟨n + 1, by omega, rfl⟩).fr (fun o c q => ?_) (fun o c q => ?_)
    · by_cases z : o = 10 ∧ c = 3
      · rw [gI_y z, z.1, z.2]; exact X3
      · rw [gI_n z, gI_n z]
    · by_cases z : o = 0 ∧ c = 0
      · rw [gI_y z, z.1, z.2]; exact M0
      · rw [gI_n z, gI_n z]
  · intro i hi
    by_cases z : i = n
    · subst z
      dsimp only
      rw [if_pos rfl, Xw, Xw, Xw, w0, w1, w2, M2, M3, M4, XR1]
      have hwk : wkd w = k := by rw [← hw]; exact wnr_k hk
      refine ⟨⟨hw128, hw4, by rw [hwk]; exact hk, m0, m1, fun q => m6 (hwk.symm.trans q)⟩, rfl, rfl, by rw [hwk], rfl, rgN h1 (by decide), rfl, rgN h2 (by decide), fun j hj => ?_⟩
      rw [M5 j hj]
      refine ⟨⟨0, by omega, rfl⟩, fun _ => ?_⟩
      rw [Xf _ _ (by omega) (by omega), (hz _ (hwL 2 (by decide)) j).1]
      rfl
    · have hi' : i < n := by omega
      have hne := hWi i hi'
      obtain ⟨g1, g2, g3, g4, g5, g6, g7, g8, g9⟩ := hK.1 i hi'
      have h128 := g1.1
      dsimp only
      rw [if_neg z, Xf _ _ hne.1 (by omega), Xf _ _ hne.1 (by omega), Xf _ _ hne.1 (by omega), XR _ _ (by omega) (by omega), Mf _ _ (by omega) (by omega) (by omega), Mf _ _ (by omega) (by omega) (by omega), Mf _ _ (by omega) (by omega) (by omega)]
      refine ⟨g1.up wu, g2, g3, g4, g5, g6, g7, g8, fun j hj => ?_⟩
      rw [Xf _ _ hne.2.2.1 (by omega), Mf _ _ (by omega) (by omega) (by omega)]
      exact g9 j hj
  · intro i j hi hj hij
    dsimp only at hij
    by_cases zi : i = n <;> by_cases zj : j = n
    · omega
    · rw [if_pos zi, if_neg zj] at hij
      exact absurd hij.symm (hWi j (by omega)).1
    · rw [if_neg zi, if_pos zj] at hij
      exact absurd hij (hWi i (by omega)).1
    · rw [if_neg zi, if_neg zj] at hij
      exact hK.2 i j (by omega) (by omega) hij
  · rcases hA with ⟨a1, a2⟩ | ⟨v, j, a1, a2, a3, a4, a5, a6⟩
    · exact Or.inl ⟨(XR _ _ (by omega) (by omega)).trans a1, (Mf _ _ (by omega) (by omega) (by omega)).trans a2⟩
    · have b1 := hB _ a2.2.2.2.1
      have b2 := a2.2.1
      have b3 := a2.1
      refine Or.inr ⟨v, j, (XR _ _ (by omega) (by omega)).trans a1, a2.up wu, (Xf _ _ (by omega) (by omega)).trans a3, (Mf _ _ (by omega) (by omega) (by omega)).trans a4, a5, fun c c1 c2 => ?_⟩
      rw [Xf _ _ (by omega) (by omega), Mf _ _ (by omega) (by omega) (by omega)]
      exact a6 c c1 c2
  · intro h47
    rw [Mf _ _ (by omega) (by omega) (by omega)] at h47
    obtain ⟨ni, n2, b1, b2, b3, b4, b5, b6, b7⟩ := hI h47
    obtain rfl : n = n2 := nI_inj (by omega) (by omega) (en.symm.trans b2)
    refine ⟨ni, n + 1, (Mf _ _ (by omega) (by omega) (by omega)).trans b1, M0, by omega, by omega, b5.fi (fun o c q => Xf o c (by omega) (by omega)) (fun o c q => Mf o c (by omega) (by omega) (by omega)), fun i hi => ?_, b7.fr (XR _ _ (by omega) (by omega)) (Mf _ _ (by omega) (by omega) (by omega)) (Mf _ _ (by omega) (by omega) (by omega))⟩
    have hne := hWi i (by omega)
    have h128 := (hK.1 i (by omega)).1.1
    obtain ⟨c1, c2, c3, c4, c5, c6⟩ := b6 i hi
    dsimp only
    rw [if_neg (show ¬ i = n by omega), Xf _ _ hne.1 (by omega), Xf _ _ hne.1 (by omega), Mf _ _ (by omega) (by omega) (by omega), Mf _ _ (by omega) (by omega) (by omega), Mf _ _ (by omega) (by omega) (by omega)]
    refine ⟨c1, c2, c3, c4, c5, fun j hj => ?_⟩
    rw [Xf _ _ hne.2.2.2 (by omega), Mf _ _ (by omega) (by omega) (by omega)]
    exact c6 j hj
end RW

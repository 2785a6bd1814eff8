/-! image, undo: the calls, on -/
theorem jn_s {α β : Type} (a : α) (k : α → β) : jn a k = k a := rfl
theorem lt1_s {α β : Type} (a : α) (k : α → β) : lt1 a k = k a := rfl
theorem stI (m : gMem) (o k : Nat) (v : Int32) : ∃ M, M = gsI m o k v ∧ gI M o k = v ∧ (∀ o' c, ¬ (o' = o ∧ c = k) → gI M o' c = gI m o' c) ∧ (∀ o' c, gJ M o' c = gJ m o' c) ∧ ∀ o' c, gR M o' c = gR m o' c := ⟨_, rfl, gI_y ⟨rfl, rfl⟩, fun _ _ h => gI_n h, fun _ _ => rfl, fun _ _ => rfl⟩
theorem stC (m : gMem) (a b n : Nat) : ∃ M, M = gcp m a b n ∧ (∀ c, c < n → gI M b c = gI m a c) ∧ (∀ o' c, o' ≠ b → gI M o' c = gI m o' c) ∧ (∀ o' c, gJ M o' c = gJ m o' c) ∧ ∀ o' c, gR M o' c = gR m o' c := ⟨_, rfl, fun _ h => gI_cy ⟨rfl, h⟩, fun _ _ h => gI_cn (fun q => h q.1), fun _ _ => rfl, fun _ _ => rfl⟩
section O8
variable {L : List Nat} {W : Nat → Nat} {N : Nat → List cls} {x m x' m' : gMem}
theorem x_tfI (x : gMem) (ha : isB (gI x 10 6)) : ∃ x1, f_X2_takeFromI L x = some x1 ∧ (∀ o c, gJ x1 o c = gJ x o c) ∧ (∀ o c, gR x1 o c = if o = 20 ∧ c = 15 then gR x 10 15 else gR x o c) ∧ (∀ o c, ¬ (20 ≤ o ∧ o ≤ 26) → gI x1 o c = gI x o c) ∧ gI x1 20 1 = gI x 10 1 ∧ gI x1 20 2 = gI x 10 2 ∧ gI x1 20 3 = gI x 10 3 ∧ gI x1 20 4 = gI x 10 4 ∧ gI x1 20 5 = gI x 10 5 ∧ gI x1 20 6 = gI x 10 6 ∧ gI x1 20 8 = gI x 10 8 ∧ gI x1 20 12 = gI x 10 12 ∧ gI x1 20 14 = gI x 10 14 ∧ (∀ c, c < 12 → gI x1 21 c = gI x 11 c) ∧ (∀ c, c < 12 → gI x1 22 c = gI x 12 c) ∧ (∀ c, c < 6 → gI x1 23 c = gI x 13 c) ∧ (∀ c, c < 6 → gI x1 24 c = gI x 14 c) ∧ (∀ c, c < 6 → gI x1 25 c = gI x 15 c) ∧ (∀ c, c < 12 → gI x1 26 c = gI x 16 c) := by
  obtain ⟨M0, e0, y0, n0, j0, r0⟩ := stC x 11 21 12
  obtain ⟨M1, e1, y1, n1, j1, r1⟩ := stI M0 20 1 (gI M0 10 1)
  obtain ⟨M2, e2, y2, n2, j2, r2⟩ := stI M1 20 2 (gI M1 10 2)
  obtain ⟨M3, e3, y3, n3, j3, r3⟩ := stI M2 20 3 (gI M2 10 3)
  obtain ⟨M4, e4, y4, n4, j4, r4⟩ := stI M3 20 4 (gI M3 10 4)
  obtain ⟨M5, e5, y5, n5, j5, r5⟩ := stI M4 20 5 (gI M4 10 5)
  obtain ⟨M6, e6, y6, n6, j6, r6⟩ := stI M5 20 6 (gI M5 10 6)
  obtain ⟨M7, e7, y7, n7, j7, r7⟩ := stC M6 12 22 12
  obtain ⟨M8, e8, y8, n8, j8, r8⟩ := stI M7 20 8 (gI M7 10 8)
  obtain ⟨M9, e9, y9, n9, j9, r9⟩ := stC M8 13 23 6
  obtain ⟨M10, e10, y10, n10, j10, r10⟩ := stC M9 14 24 6
  obtain ⟨M11, e11, y11, n11, j11, r11⟩ := stC M10 15 25 6
  obtain ⟨M12, e12, y12, n12, j12, r12⟩ := stI M11 20 12 (gI M11 10 12)
  obtain ⟨M13, e13, y13, n13, j13, r13⟩ := stC M12 16 26 12
  obtain ⟨M14, e14, y14, n14, j14, r14⟩ := stI M13 20 14 (gI M13 10 14)
  have hB : isB (gI M5 10 6) := by simp (disch := omega) only [n0, n1, n2, n3, n4, n5, n6, n7, n8, n9, n10, n11, n12, n13, n14]; exact ha
  refine ⟨gsR M14 20 15 (gR M14 10 15), ?_, fun o c => ?_, fun o c => ?_, fun o c q => ?_, ?_, ?_, ?_, ?_, ?_, ?_, ?_, ?_, ?_, fun c hc => ?_, fun c hc => ?_, fun c hc => ?_, fun c hc => ?_, fun c hc => ?_, fun c hc => ?_⟩
  · unfold f_X2_takeFromI
    rw [← e0, lt1_s, ← e1, lt1_s, ← e2, lt1_s, ← e3, lt1_s, ← e4, lt1_s, ← e5, lt1_s, if_pos hB, ← e6, lt1_s, ← e7, lt1_s, ← e8, lt1_s, ← e9, lt1_s, ← e10, lt1_s, ← e11, lt1_s, ← e12, lt1_s, ← e13, lt1_s, ← e14, lt1_s, lt1_s]
  · rw [gJ_sR]; simp only [j0, j1, j2, j3, j4, j5, j6, j7, j8, j9, j10, j11, j12, j13, j14]
  · rw [gR_sR]; simp only [r0, r1, r2, r3, r4, r5, r6, r7, r8, r9, r10, r11, r12, r13, r14]
  · simp (disch := omega) only [gI_sR, n0, n1, n2, n3, n4, n5, n6, n7, n8, n9, n10, n11, n12, n13, n14, y0, y1, y2, y3, y4, y5, y6, y7, y8, y9, y10, y11, y12, y13, y14]
  · simp (disch := omega) only [gI_sR, n0, n1, n2, n3, n4, n5, n6, n7, n8, n9, n10, n11, n12, n13, n14, y0, y1, y2, y3, y4, y5, y6, y7, y8, y9, y10, y11, y12, y13, y14]
  · simp (disch := omega) only [gI_sR, n0, n1, n2, n3, n4, n5, n6, n7, n8, n9, n10, n11, n12, n13, n14, y0, y1, y2, y3, y4, y5, y6, y7, y8, y9, y10, y11, y12, y13, y14]
  · simp (disch := omega) only [gI_sR, n0, n1, n2, n3, n4, n5, n6, n7, n8, n9, n10, n11, n12, n13, n14, y0, y1, y2, y3, y4, y5, y6, y7, y8, y9, y10, y11, y12, y13, y14]
  · simp (disch := omega) only [gI_sR, n0, n1, n2, n3, n4, n5, n6, n7, n8, n9, n10, n11, n12, n13, n14, y0, y1, y2, y3, y4, y5, y6, y7, y8, y9, y10, y11, y12, y13, y14]
  · simp (disch := omega) only [gI_sR, n0, n1, n2, n3, n4, n5, n6, n7, n8, n9, n10, n11, n12, n13, n14, y0, y1, y2, y3, y4, y5, y6, y7, y8, y9, y10, y11, y12, y13, y14]
  · simp (disch := omega) only [gI_sR, n0, n1, n2, n3, n4, n5, n6, n7, n8, n9, n10, n11, n12, n13, n14, y0, y1, y2, y3, y4, y5, y6, y7, y8, y9, y10, y11, y12, y13, y14]
  · simp (disch := omega) only [gI_sR, n0, n1, n2, n3, n4, n5, n6, n7, n8, n9, n10, n11, n12, n13, n14, y0, y1, y2, y3, y4, y5, y6, y7, y8, y9, y10, y11, y12, y13, y14]
  · simp (disch := omega) only [gI_sR, n0, n1, n2, n3, n4, n5, n6, n7, n8, n9, n10, n11, n12, n13, n14, y0, y1, y2, y3, y4, y5, y6, y7, y8, y9, y10, y11, y12, y13, y14]
  · simp (disch := omega) only [gI_sR, n0, n1, n2, n3, n4, n5, n6, n7, n8, n9, n10, n11, n12, n13, n14, y0, y1, y2, y3, y4, y5, y6, y7, y8, y9, y10, y11, y12, y13, y14]
  · simp (disch := omega) only [gI_sR, n0, n1, n2, n3, n4, n5, n6, n7, n8, n9, n10, n11, n12, n13, n14, y0, y1, y2, y3, y4, y5, y6, y7, y8, y9, y10, y11, y12, y13, y14]
  · simp (disch := omega) only [gI_sR, n0, n1, n2, n3, n4, n5, n6, n7, n8, n9, n10, n11, n12, n13, n14, y0, y1, y2, y3, y4, y5, y6, y7, y8, y9, y10, y11, y12, y13, y14]
  · simp (disch := omega) only [gI_sR, n0, n1, n2, n3, n4, n5, n6, n7, n8, n9, n10, n11, n12, n13, n14, y0, y1, y2, y3, y4, y5, y6, y7, y8, y9, y10, y11, y12, y13, y14]
  · simp (disch := omega) only [gI_sR, n0, n1, n2, n3, n4, n5, n6, n7, n8, n9, n10, n11, n12, n13, n14, y0, y1, y2, y3, y4, y5, y6, y7, y8, y9, y10, y11, y12, y13, y14]
  · simp (disch := omega) only [gI_sR, n0, n1, n2, n3, n4, n5, n6, n7, n8, n9, n10, n11, n12, n13, n14, y0, y1, y2, y3, y4, y5, y6, y7, y8, y9, y10, y11, y12, y13, y14]
  · simp (disch := omega) only [gI_sR, n0, n1, n2, n3, n4, n5, n6, n7, n8, n9, n10, n11, n12, n13, n14, y0, y1, y2, y3, y4, y5, y6, y7, y8, y9, y10, y11, y12, y13, y14]
theorem x_tfN (x : gMem) (ha : isB (gI x 20 6)) : ∃ x1, f_X2_takeFromN L x = some x1 ∧ (∀ o c, gJ x1 o c = gJ x o c) ∧ (∀ o c, gR x1 o c = if o = 10 ∧ c = 15 then gR x 20 15 else gR x o c) ∧ (∀ o c, ¬ (10 ≤ o ∧ o ≤ 16) → gI x1 o c = gI x o c) ∧ gI x1 10 1 = gI x 20 1 ∧ gI x1 10 2 = gI x 20 2 ∧ gI x1 10 3 = gI x 20 3 ∧ gI x1 10 4 = gI x 20 4 ∧ gI x1 10 5 = gI x 20 5 ∧ gI x1 10 6 = gI x 20 6 ∧ gI x1 10 8 = gI x 20 8 ∧ gI x1 10 12 = gI x 20 12 ∧ gI x1 10 14 = gI x 20 14 ∧ (∀ c, c < 12 → gI x1 11 c = gI x 21 c) ∧ (∀ c, c < 12 → gI x1 12 c = gI x 22 c) ∧ (∀ c, c < 6 → gI x1 13 c = gI x 23 c) ∧ (∀ c, c < 6 → gI x1 14 c = gI x 24 c) ∧ (∀ c, c < 6 → gI x1 15 c = gI x 25 c) ∧ (∀ c, c < 12 → gI x1 16 c = gI x 26 c) := by
  obtain ⟨M0, e0, y0, n0, j0, r0⟩ := stC x 21 11 12
  obtain ⟨M1, e1, y1, n1, j1, r1⟩ := stI M0 10 1 (gI M0 20 1)
  obtain ⟨M2, e2, y2, n2, j2, r2⟩ := stI M1 10 2 (gI M1 20 2)
  obtain ⟨M3, e3, y3, n3, j3, r3⟩ := stI M2 10 3 (gI M2 20 3)
  obtain ⟨M4, e4, y4, n4, j4, r4⟩ := stI M3 10 4 (gI M3 20 4)
  obtain ⟨M5, e5, y5, n5, j5, r5⟩ := stI M4 10 5 (gI M4 20 5)
  obtain ⟨M6, e6, y6, n6, j6, r6⟩ := stI M5 10 6 (gI M5 20 6)
  obtain ⟨M7, e7, y7, n7, j7, r7⟩ := stC M6 22 12 12
  obtain ⟨M8, e8, y8, n8, j8, r8⟩ := stI M7 10 8 (gI M7 20 8)
  obtain ⟨M9, e9, y9, n9, j9, r9⟩ := stC M8 23 13 6
  obtain ⟨M10, e10, y10, n10, j10, r10⟩ := stC M9 24 14 6
  obtain ⟨M11, e11, y11, n11, j11, r11⟩ := stC M10 25 15 6
  obtain ⟨M12, e12, y12, n12, j12, r12⟩ := stI M11 10 12 (gI M11 20 12)
  obtain ⟨M13, e13, y13, n13, j13, r13⟩ := stC M12 26 16 12
  obtain ⟨M14, e14, y14, n14, j14, r14⟩ := stI M13 10 14 (gI M13 20 14)
  have hB : isB (gI M5 20 6) := by simp (disch := omega) only [n0, n1, n2, n3, n4, n5, n6, n7, n8, n9, n10, n11, n12, n13, n14]; exact ha
  refine ⟨gsR M14 10 15 (gR M14 20 15), ?_, fun o c => ?_, fun o c => ?_, fun o c q => ?_, ?_, ?_, ?_, ?_, ?_, ?_, ?_, ?_, ?_, fun c hc => ?_, fun c hc => ?_, fun c hc => ?_, fun c hc => ?_, fun c hc => ?_, fun c hc => ?_⟩
  · unfold f_X2_takeFromN
    rw [← e0, lt1_s, ← e1, lt1_s, ← e2, lt1_s, ← e3, lt1_s, ← e4, lt1_s, ← e5, lt1_s, if_pos hB, ← e6, lt1_s, ← e7, lt1_s, ← e8, lt1_s, ← e9, lt1_s, ← e10, lt1_s, ← e11, lt1_s, ← e12, lt1_s, ← e13, lt1_s, ← e14, lt1_s, lt1_s]
  · rw [gJ_sR]; simp only [j0, j1, j2, j3, j4, j5, j6, j7, j8, j9, j10, j11, j12, j13, j14]
  · rw [gR_sR]; simp only [r0, r1, r2, r3, r4, r5, r6, r7, r8, r9, r10, r11, r12, r13, r14]
  · simp (disch := omega) only [gI_sR, n0, n1, n2, n3, n4, n5, n6, n7, n8, n9, n10, n11, n12, n13, n14, y0, y1, y2, y3, y4, y5, y6, y7, y8, y9, y10, y11, y12, y13, y14]
  · simp (disch := omega) only [gI_sR, n0, n1, n2, n3, n4, n5, n6, n7, n8, n9, n10, n11, n12, n13, n14, y0, y1, y2, y3, y4, y5, y6, y7, y8, y9, y10, y11, y12, y13, y14]
  · simp (disch := omega) only [gI_sR, n0, n1, n2, n3, n4, n5, n6, n7, n8, n9, n10, n11, n12, n13, n14, y0, y1, y2, y3, y4, y5, y6, y7, y8, y9, y10, y11, y12, y13, y14]
  · simp (disch := omega) only [gI_sR, n0, n1, n2, n3, n4, n5, n6, n7, n8, n9, n10, n11, n12, n13, n14, y0, y1, y2, y3, y4, y5, y6, y7, y8, y9, y10, y11, y12, y13, y14]
  · simp (disch := omega) only [gI_sR, n0, n1, n2, n3, n4, n5, n6, n7, n8, n9, n10, n11, n12, n13, n14, y0, y1, y2, y3, y4, y5, y6, y7, y8, y9, y10, y11, y12, y13, y14]
  · simp (disch := omega) only [gI_sR, n0, n1, n2, n3, n4, n5, n6, n7, n8, n9, n10, n11, n12, n13, n14, y0, y1, y2, y3, y4, y5, y6, y7, y8, y9, y10, y11, y12, y13, y14]
  · simp (disch := omega) only [gI_sR, n0, n1, n2, n3, n4, n5, n6, n7, n8, n9, n10, n11, n12, n13, n14, y0, y1, y2, y3, y4, y5, y6, y7, y8, y9, y10, y11, y12, y13, y14]
  · simp (disch := omega) only [gI_sR, n0, n1, n2, n3, n4, n5, n6, n7, n8, n9, n10, n11, n12, n13, n14, y0, y1, y2, y3, y4, y5, y6, y7, y8, y9, y10, y11, y12, y13, y14]
  · simp (disch := omega) only [gI_sR, n0, n1, n2, n3, n4, n5, n6, n7, n8, n9, n10, n11, n12, n13, n14, y0, y1, y2, y3, y4, y5, y6, y7, y8, y9, y10, y11, y12, y13, y14]
  · simp (disch := omega) only [gI_sR, n0, n1, n2, n3, n4, n5, n6, n7, n8, n9, n10, n11, n12, n13, n14, y0, y1, y2, y3, y4, y5, y6, y7, y8, y9, y10, y11, y12, y13, y14]
  · simp (disch := omega) only [gI_sR, n0, n1, n2, n3, n4, n5, n6, n7, n8, n9, n10, n11, n12, n13, n14, y0, y1, y2, y3, y4, y5, y6, y7, y8, y9, y10, y11, y12, y13, y14]
  · simp (disch := omega) only [gI_sR, n0, n1, n2, n3, n4, n5, n6, n7, n8, n9, n10, n11, n12, n13, n14, y0, y1, y2, y3, y4, y5, y6, y7, y8, y9, y10, y11, y12, y13, y14]
  · simp (disch := omega) only [gI_sR, n0, n1, n2, n3, n4, n5, n6, n7, n8, n9, n10, n11, n12, n13, n14, y0, y1, y2, y3, y4, y5, y6, y7, y8, y9, y10, y11, y12, y13, y14]
  · simp (disch := omega) only [gI_sR, n0, n1, n2, n3, n4, n5, n6, n7, n8, n9, n10, n11, n12, n13, n14, y0, y1, y2, y3, y4, y5, y6, y7, y8, y9, y10, y11, y12, y13, y14]
  · simp (disch := omega) only [gI_sR, n0, n1, n2, n3, n4, n5, n6, n7, n8, n9, n10, n11, n12, n13, n14, y0, y1, y2, y3, y4, y5, y6, y7, y8, y9, y10, y11, y12, y13, y14]
  · simp (disch := omega) only [gI_sR, n0, n1, n2, n3, n4, n5, n6, n7, n8, n9, n10, n11, n12, n13, n14, y0, y1, y2, y3, y4, y5, y6, y7, y8, y9, y10, y11, y12, y13, y14]
theorem m_image (m : gMem) (ha : isB (gI m 0 5)) (hb : ∀ c, c < 6 → isB (gI m 23 c)) : ∃ m', f_X12_image m = some (gI m 0 0, m') ∧ (∀ o c, gJ m' o c = gJ m o c) ∧ (∀ o c, gR m' o c = gR m o c) ∧ (∀ o c, ¬ ((o = 0 ∧ 47 ≤ c ∧ c ≤ 57) ∨ (25 ≤ o ∧ o ≤ 34)) → gI m' o c = gI m o c) ∧ gI m' 0 47 = nI 1 ∧ gI m' 0 48 = gI m 0 5 ∧ gI m' 0 49 = gI m 0 12 ∧ gI m' 0 50 = gI m 0 0 ∧ gI m' 0 51 = gI m 0 1 ∧ gI m' 0 52 = gI m 0 2 ∧ gI m' 0 53 = gI m 0 3 ∧ gI m' 0 54 = gI m 0 4 ∧ gI m' 0 55 = gI m 0 30 ∧ gI m' 0 56 = gI m 0 41 ∧ gI m' 0 57 = gI m 0 45 ∧ (∀ c, c < 12 → gI m' 25 c = gI m 1 c) ∧ (∀ c, c < 12 → gI m' 30 c = gI m 16 c) ∧ (∀ c, c < 12 → gI m' 33 c = gI m 24 c) ∧ (∀ c, c < 4 → gI m' 26 c = gI m 2 c) ∧ (∀ c, c < 4 → gI m' 27 c = gI m 3 c) ∧ (∀ c, c < 4 → gI m' 28 c = gI m 4 c) ∧ (∀ c, c < 16 → gI m' 29 c = gI m 5 c) ∧ (∀ c, c < 6 → gI m' 31 c = gI m 21 c) ∧ (∀ c, c < 6 → gI m' 32 c = gI m 22 c) ∧ ∀ c, c < 6 → gI m' 34 c = gI m 23 c := by
  obtain ⟨M0, e0, y0, n0, j0, r0⟩ := stI m 0 47 1
  obtain ⟨M1, e1, y1, n1, j1, r1⟩ := stI M0 0 48 (gI M0 0 5)
  obtain ⟨M2, e2, y2, n2, j2, r2⟩ := stI M1 0 49 (gI M1 0 12)
  obtain ⟨M3, e3, y3, n3, j3, r3⟩ := stI M2 0 50 (gI M2 0 0)
  obtain ⟨M4, e4, y4, n4, j4, r4⟩ := stI M3 0 51 (gI M3 0 1)
  obtain ⟨M5, e5, y5, n5, j5, r5⟩ := stI M4 0 52 (gI M4 0 2)
  obtain ⟨M6, e6, y6, n6, j6, r6⟩ := stI M5 0 53 (gI M5 0 3)
  obtain ⟨M7, e7, y7, n7, j7, r7⟩ := stI M6 0 54 (gI M6 0 4)
  obtain ⟨M8, e8, y8, n8, j8, r8⟩ := stI M7 0 55 (gI M7 0 30)
  obtain ⟨M9, e9, y9, n9, j9, r9⟩ := stI M8 0 56 (gI M8 0 41)
  obtain ⟨M10, e10, y10, n10, j10, r10⟩ := stI M9 0 57 (gI M9 0 45)
  obtain ⟨m1, a1, a2, a3, aF, v1, v2, v3⟩ := m_im1' ((fun (m20 : gMem) => jn ((fun (m29 : gMem) => jn (((fun (m36 : gMem) => lq2 (s_X12_image_212) 1000 (0 : Int32) m36) : gMem → Option (Int32 × gMem)) : gMem → Option (Int32 × gMem)) fun j30 => lq2 (s_X12_image_186 j30) 1000 (0 : Int32) m29) : gMem → Option (Int32 × gMem)) fun j21 => lq2 (s_X12_image_137 j21) 1000 (0 : Int32) m20) : gMem → Option (Int32 × gMem)) M10
  obtain ⟨m2, b1, b2, b3, bF, v4, v5, v6⟩ := m_im2' ((fun (m29 : gMem) => jn (((fun (m36 : gMem) => lq2 (s_X12_image_212) 1000 (0 : Int32) m36) : gMem → Option (Int32 × gMem)) : gMem → Option (Int32 × gMem)) fun j30 => lq2 (s_X12_image_186 j30) 1000 (0 : Int32) m29) : gMem → Option (Int32 × gMem)) m1
  obtain ⟨m3, c1, c2, c3, cF, v7⟩ := m_im3' ((fun (m36 : gMem) => lq2 (s_X12_image_212) 1000 (0 : Int32) m36) : gMem → Option (Int32 × gMem)) m2
  obtain ⟨m4, d1, d2, d3, dF, v8, v9, v10⟩ := m_im4' m3 (fun c hc => by
    simp (disch := omega) only [cF, bF, aF, n0, n1, n2, n3, n4, n5, n6, n7, n8, n9, n10]
    exact hb c hc)
  have k0 : gI m4 0 0 = gI m 0 0 := by simp (disch := omega) only [dF, cF, bF, aF, n0, n1, n2, n3, n4, n5, n6, n7, n8, n9, n10, y0, y1, y2, y3, y4, y5, y6, y7, y8, y9, y10]
  have hB : isB (gI M0 0 5) := by simp (disch := omega) only [n0]; exact ha
  refine ⟨m4, ?_, fun o c => ?_, fun o c => ?_, fun o c q => ?_, ?_, ?_, ?_, ?_, ?_, ?_, ?_, ?_, ?_, ?_, ?_, fun c hc => ?_, fun c hc => ?_, fun c hc => ?_, fun c hc => ?_, fun c hc => ?_, fun c hc => ?_, fun c hc => ?_, fun c hc => ?_, fun c hc => ?_, fun c hc => ?_⟩
  · rw [← k0, ← d1]
    unfold f_X12_image
    rw [if_pos (show isB (1 : Int32) from Or.inr rfl), ← e0, lt1_s, if_pos hB, ← e1, lt1_s, ← e2, lt1_s, ← e3, lt1_s, ← e4, lt1_s, ← e5, lt1_s, ← e6, lt1_s, ← e7, lt1_s, ← e8, lt1_s, ← e9, lt1_s, ← e10, lt1_s, jn_s, a1, jn_s, b1, jn_s, c1]
  · simp only [d2, c2, b2, a2, j0, j1, j2, j3, j4, j5, j6, j7, j8, j9, j10]
  · simp only [d3, c3, b3, a3, r0, r1, r2, r3, r4, r5, r6, r7, r8, r9, r10]
  · simp (disch := omega) only [dF, cF, bF, aF, n0, n1, n2, n3, n4, n5, n6, n7, n8, n9, n10, y0, y1, y2, y3, y4, y5, y6, y7, y8, y9, y10]
  · simp (disch := omega) only [dF, cF, bF, aF, n0, n1, n2, n3, n4, n5, n6, n7, n8, n9, n10, y0, y1, y2, y3, y4, y5, y6, y7, y8, y9, y10]; rfl
  · simp (disch := omega) only [dF, cF, bF, aF, n0, n1, n2, n3, n4, n5, n6, n7, n8, n9, n10, y0, y1, y2, y3, y4, y5, y6, y7, y8, y9, y10]
  · simp (disch := omega) only [dF, cF, bF, aF, n0, n1, n2, n3, n4, n5, n6, n7, n8, n9, n10, y0, y1, y2, y3, y4, y5, y6, y7, y8, y9, y10]
  · simp (disch := omega) only [dF, cF, bF, aF, n0, n1, n2, n3, n4, n5, n6, n7, n8, n9, n10, y0, y1, y2, y3, y4, y5, y6, y7, y8, y9, y10]
  · simp (disch := omega) only [dF, cF, bF, aF, n0, n1, n2, n3, n4, n5, n6, n7, n8, n9, n10, y0, y1, y2, y3, y4, y5, y6, y7, y8, y9, y10]
  · simp (disch := omega) only [dF, cF, bF, aF, n0, n1, n2, n3, n4, n5, n6, n7, n8, n9, n10, y0, y1, y2, y3, y4, y5, y6, y7, y8, y9, y10]
  · simp (disch := omega) only [dF, cF, bF, aF, n0, n1, n2, n3, n4, n5, n6, n7, n8, n9, n10, y0, y1, y2, y3, y4, y5, y6, y7, y8, y9, y10]
  · simp (disch := omega) only [dF, cF, bF, aF, n0, n1, n2, n3, n4, n5, n6, n7, n8, n9, n10, y0, y1, y2, y3, y4, y5, y6, y7, y8, y9, y10]
  · simp (disch := omega) only [dF, cF, bF, aF, n0, n1, n2, n3, n4, n5, n6, n7, n8, n9, n10, y0, y1, y2, y3, y4, y5, y6, y7, y8, y9, y10]
  · simp (disch := omega) only [dF, cF, bF, aF, n0, n1, n2, n3, n4, n5, n6, n7, n8, n9, n10, y0, y1, y2, y3, y4, y5, y6, y7, y8, y9, y10]
  · simp (disch := omega) only [dF, cF, bF, aF, n0, n1, n2, n3, n4, n5, n6, n7, n8, n9, n10, y0, y1, y2, y3, y4, y5, y6, y7, y8, y9, y10]
  · simp (disch := omega) only [v1, dF, cF, bF, aF, n0, n1, n2, n3, n4, n5, n6, n7, n8, n9, n10, y0, y1, y2, y3, y4, y5, y6, y7, y8, y9, y10]
  · simp (disch := omega) only [v2, dF, cF, bF, aF, n0, n1, n2, n3, n4, n5, n6, n7, n8, n9, n10, y0, y1, y2, y3, y4, y5, y6, y7, y8, y9, y10]
  · simp (disch := omega) only [v3, dF, cF, bF, aF, n0, n1, n2, n3, n4, n5, n6, n7, n8, n9, n10, y0, y1, y2, y3, y4, y5, y6, y7, y8, y9, y10]
  · simp (disch := omega) only [v4, dF, cF, bF, aF, n0, n1, n2, n3, n4, n5, n6, n7, n8, n9, n10, y0, y1, y2, y3, y4, y5, y6, y7, y8, y9, y10]
  · simp (disch := omega) only [v5, dF, cF, bF, aF, n0, n1, n2, n3, n4, n5, n6, n7, n8, n9, n10, y0, y1, y2, y3, y4, y5, y6, y7, y8, y9, y10]
  · simp (disch := omega) only [v6, dF, cF, bF, aF, n0, n1, n2, n3, n4, n5, n6, n7, n8, n9, n10, y0, y1, y2, y3, y4, y5, y6, y7, y8, y9, y10]
  · simp (disch := omega) only [v7, dF, cF, bF, aF, n0, n1, n2, n3, n4, n5, n6, n7, n8, n9, n10, y0, y1, y2, y3, y4, y5, y6, y7, y8, y9, y10]
  · simp (disch := omega) only [v8, dF, cF, bF, aF, n0, n1, n2, n3, n4, n5, n6, n7, n8, n9, n10, y0, y1, y2, y3, y4, y5, y6, y7, y8, y9, y10]
  · simp (disch := omega) only [v9, dF, cF, bF, aF, n0, n1, n2, n3, n4, n5, n6, n7, n8, n9, n10, y0, y1, y2, y3, y4, y5, y6, y7, y8, y9, y10]
  · simp (disch := omega) only [v10, dF, cF, bF, aF, n0, n1, n2, n3, n4, n5, n6, n7, n8, n9, n10, y0, y1, y2, y3, y4, y5, y6, y7, y8, y9, y10]
theorem m_undo (m : gMem) (h47 : gI m 0 47 = nI 1) (ha : isB (gI m 0 48)) (hb : ∀ c, c < 6 → isB (gI m 34 c)) : ∃ m', f_X12_undo m = some (gI m 0 50, m') ∧ (∀ o c, gJ m' o c = gJ m o c) ∧ (∀ o c, gR m' o c = gR m o c) ∧ (∀ o c, ¬ ((o = 0 ∧ (c ≤ 5 ∨ c = 12 ∨ c = 30 ∨ c = 41 ∨ c = 45)) ∨ (1 ≤ o ∧ o ≤ 5) ∨ o = 16 ∨ (21 ≤ o ∧ o ≤ 24)) → gI m' o c = gI m o c) ∧ gI m' 0 5 = gI m 0 48 ∧ gI m' 0 12 = gI m 0 49 ∧ gI m' 0 0 = gI m 0 50 ∧ gI m' 0 1 = gI m 0 51 ∧ gI m' 0 2 = gI m 0 52 ∧ gI m' 0 3 = gI m 0 53 ∧ gI m' 0 4 = gI m 0 54 ∧ gI m' 0 30 = gI m 0 55 ∧ gI m' 0 41 = gI m 0 56 ∧ gI m' 0 45 = gI m 0 57 ∧ (∀ c, c < 12 → gI m' 1 c = gI m 25 c) ∧ (∀ c, c < 12 → gI m' 16 c = gI m 30 c) ∧ (∀ c, c < 12 → gI m' 24 c = gI m 33 c) ∧ (∀ c, c < 4 → gI m' 2 c = gI m 26 c) ∧ (∀ c, c < 4 → gI m' 3 c = gI m 27 c) ∧ (∀ c, c < 4 → gI m' 4 c = gI m 28 c) ∧ (∀ c, c < 16 → gI m' 5 c = gI m 29 c) ∧ (∀ c, c < 6 → gI m' 21 c = gI m 31 c) ∧ (∀ c, c < 6 → gI m' 22 c = gI m 32 c) ∧ ∀ c, c < 6 → gI m' 23 c = gI m 34 c := by
  obtain ⟨M0, e0, y0, n0, j0, r0⟩ := stI m 0 5 (gI m 0 48)
  obtain ⟨M1, e1, y1, n1, j1, r1⟩ := stI M0 0 12 (gI M0 0 49)
  obtain ⟨M2, e2, y2, n2, j2, r2⟩ := stI M1 0 0 (gI M1 0 50)
  obtain ⟨M3, e3, y3, n3, j3, r3⟩ := stI M2 0 1 (gI M2 0 51)
  obtain ⟨M4, e4, y4, n4, j4, r4⟩ := stI M3 0 2 (gI M3 0 52)
  obtain ⟨M5, e5, y5, n5, j5, r5⟩ := stI M4 0 3 (gI M4 0 53)
  obtain ⟨M6, e6, y6, n6, j6, r6⟩ := stI M5 0 4 (gI M5 0 54)
  obtain ⟨M7, e7, y7, n7, j7, r7⟩ := stI M6 0 30 (gI M6 0 55)
  obtain ⟨M8, e8, y8, n8, j8, r8⟩ := stI M7 0 41 (gI M7 0 56)
  obtain ⟨M9, e9, y9, n9, j9, r9⟩ := stI M8 0 45 (gI M8 0 57)
  obtain ⟨m1, a1, a2, a3, aF, v1, v2, v3⟩ := m_un1' ((fun (m20 : gMem) => jn ((fun (m29 : gMem) => jn (((fun (m36 : gMem) => lq2 (s_X12_undo_217) 1000 (0 : Int32) m36) : gMem → Option (Int32 × gMem)) : gMem → Option (Int32 × gMem)) fun j29 => lq2 (s_X12_undo_191 j29) 1000 (0 : Int32) m29) : gMem → Option (Int32 × gMem)) fun j20 => lq2 (s_X12_undo_142 j20) 1000 (0 : Int32) m20) : gMem → Option (Int32 × gMem)) M9
  obtain ⟨m2, b1, b2, b3, bF, v4, v5, v6⟩ := m_un2' ((fun (m29 : gMem) => jn (((fun (m36 : gMem) => lq2 (s_X12_undo_217) 1000 (0 : Int32) m36) : gMem → Option (Int32 × gMem)) : gMem → Option (Int32 × gMem)) fun j29 => lq2 (s_X12_undo_191 j29) 1000 (0 : Int32) m29) : gMem → Option (Int32 × gMem)) m1
  obtain ⟨m3, c1, c2, c3, cF, v7⟩ := m_un3' ((fun (m36 : gMem) => lq2 (s_X12_undo_217) 1000 (0 : Int32) m36) : gMem → Option (Int32 × gMem)) m2
  obtain ⟨m4, d1, d2, d3, dF, v8, v9, v10⟩ := m_un4' m3 (fun c hc => by
    simp (disch := omega) only [cF, bF, aF, n0, n1, n2, n3, n4, n5, n6, n7, n8, n9]
    exact hb c hc)
  have k0 : gI m4 0 0 = gI m 0 50 := by simp (disch := omega) only [dF, cF, bF, aF, n0, n1, n2, n3, n4, n5, n6, n7, n8, n9, y0, y1, y2, y3, y4, y5, y6, y7, y8, y9]
  refine ⟨m4, ?_, fun o c => ?_, fun o c => ?_, fun o c q => ?_, ?_, ?_, ?_, ?_, ?_, ?_, ?_, ?_, ?_, ?_, fun c hc => ?_, fun c hc => ?_, fun c hc => ?_, fun c hc => ?_, fun c hc => ?_, fun c hc => ?_, fun c hc => ?_, fun c hc => ?_, fun c hc => ?_, fun c hc => ?_⟩
  · rw [← k0, ← d1]
    unfold f_X12_undo
    rw [if_neg (show ¬ gI m 0 47 = 0 by rw [h47]; decide), if_pos ha, ← e0, lt1_s, ← e1, lt1_s, ← e2, lt1_s, ← e3, lt1_s, ← e4, lt1_s, ← e5, lt1_s, ← e6, lt1_s, ← e7, lt1_s, ← e8, lt1_s, ← e9, lt1_s, jn_s, a1, jn_s, b1, jn_s, c1]
  · simp only [d2, c2, b2, a2, j0, j1, j2, j3, j4, j5, j6, j7, j8, j9]
  · simp only [d3, c3, b3, a3, r0, r1, r2, r3, r4, r5, r6, r7, r8, r9]
  · simp (disch := omega) only [dF, cF, bF, aF, n0, n1, n2, n3, n4, n5, n6, n7, n8, n9, y0, y1, y2, y3, y4, y5, y6, y7, y8, y9]
  · simp (disch := omega) only [dF, cF, bF, aF, n0, n1, n2, n3, n4, n5, n6, n7, n8, n9, y0, y1, y2, y3, y4, y5, y6, y7, y8, y9]
  · simp (disch := omega) only [dF, cF, bF, aF, n0, n1, n2, n3, n4, n5, n6, n7, n8, n9, y0, y1, y2, y3, y4, y5, y6, y7, y8, y9]
  · simp (disch := omega) only [dF, cF, bF, aF, n0, n1, n2, n3, n4, n5, n6, n7, n8, n9, y0, y1, y2, y3, y4, y5, y6, y7, y8, y9]
  · simp (disch := omega) only [dF, cF, bF, aF, n0, n1, n2, n3, n4, n5, n6, n7, n8, n9, y0, y1, y2, y3, y4, y5, y6, y7, y8, y9]
  · simp (disch := omega) only [dF, cF, bF, aF, n0, n1, n2, n3, n4, n5, n6, n7, n8, n9, y0, y1, y2, y3, y4, y5, y6, y7, y8, y9]
  · simp (disch := omega) only [dF, cF, bF, aF, n0, n1, n2, n3, n4, n5, n6, n7, n8, n9, y0, y1, y2, y3, y4, y5, y6, y7, y8, y9]
  · simp (disch := omega) only [dF, cF, bF, aF, n0, n1, n2, n3, n4, n5, n6, n7, n8, n9, y0, y1, y2, y3, y4, y5, y6, y7, y8, y9]
  · simp (disch := omega) only [dF, cF, bF, aF, n0, n1, n2, n3, n4, n5, n6, n7, n8, n9, y0, y1, y2, y3, y4, y5, y6, y7, y8, y9]
  · simp (disch := omega) only [dF, cF, bF, aF, n0, n1, n2, n3, n4, n5, n6, n7, n8, n9, y0, y1, y2, y3, y4, y5, y6, y7, y8, y9]
  · simp (disch := omega) only [dF, cF, bF, aF, n0, n1, n2, n3, n4, n5, n6, n7, n8, n9, y0, y1, y2, y3, y4, y5, y6, y7, y8, y9]
  · simp (disch := omega) only [v1, dF, cF, bF, aF, n0, n1, n2, n3, n4, n5, n6, n7, n8, n9, y0, y1, y2, y3, y4, y5, y6, y7, y8, y9]
  · simp (disch := omega) only [v2, dF, cF, bF, aF, n0, n1, n2, n3, n4, n5, n6, n7, n8, n9, y0, y1, y2, y3, y4, y5, y6, y7, y8, y9]
  · simp (disch := omega) only [v3, dF, cF, bF, aF, n0, n1, n2, n3, n4, n5, n6, n7, n8, n9, y0, y1, y2, y3, y4, y5, y6, y7, y8, y9]
  · simp (disch := omega) only [v4, dF, cF, bF, aF, n0, n1, n2, n3, n4, n5, n6, n7, n8, n9, y0, y1, y2, y3, y4, y5, y6, y7, y8, y9]
  · simp (disch := omega) only [v5, dF, cF, bF, aF, n0, n1, n2, n3, n4, n5, n6, n7, n8, n9, y0, y1, y2, y3, y4, y5, y6, y7, y8, y9]
  · simp (disch := omega) only [v6, dF, cF, bF, aF, n0, n1, n2, n3, n4, n5, n6, n7, n8, n9, y0, y1, y2, y3, y4, y5, y6, y7, y8, y9]
  · simp (disch := omega) only [v7, dF, cF, bF, aF, n0, n1, n2, n3, n4, n5, n6, n7, n8, n9, y0, y1, y2, y3, y4, y5, y6, y7, y8, y9]
  · simp (disch := omega) only [v8, dF, cF, bF, aF, n0, n1, n2, n3, n4, n5, n6, n7, n8, n9, y0, y1, y2, y3, y4, y5, y6, y7, y8, y9]
  · simp (disch := omega) only [v9, dF, cF, bF, aF, n0, n1, n2, n3, n4, n5, n6, n7, n8, n9, y0, y1, y2, y3, y4, y5, y6, y7, y8, y9]
  · simp (disch := omega) only [v10, dF, cF, bF, aF, n0, n1, n2, n3, n4, n5, n6, n7, n8, n9, y0, y1, y2, y3, y4, y5, y6, y7, y8, y9]
end O8

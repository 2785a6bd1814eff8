/-! image, undo keep what they must -/
section O9
variable {L : List Nat} {W : Nat → Nat} {N : Nat → List cls} {x m x' m' : gMem}
theorem CU.mv {c c' h h' : Nat} (H : CU x m c h) (hr : gR x' h' 15 = gR x h 15) (h1 : gI m' 0 11 = gI m 0 11) (h2 : gI m' 0 c' = gI m 0 c) : CU x' m' c' h' := by
  unfold CU at *
  rw [hr, h1, h2]
  exact H
theorem op_image (H : Rel L W N x m) : Op L W N (f_X11_image L x) (f_X12_image m) := by
  obtain ⟨hO, hWN, hA, hT, hN, hC, hX, hM, hI⟩ := H
  obtain ⟨n, hn, en, hW⟩ := hWN
  have hx6 : gI x 10 6 = gI m 0 5 := hO.1.2.2.2.2.2.1
  have hx3 : gI x 10 3 = gI m 0 0 := hO.1.2.2.1
  have h5 : isB (gI m 0 5) := rgB hO.2.2.2.2.2.2.2.1
  have h23 : ∀ c, c < 6 → isB (gI m 23 c) := fun c hc => rgB (hO.2.2.2.2.2.2.2.2.2.2.2.2.2.2.2.1 c hc)
  obtain ⟨m', e, mJ, mR, mF, m47, m48, m49, m50, m51, m52, m53, m54, m55, m56, m57, b1, b16, b24, b2, b3, b4, b5, b21, b22, b23⟩ := m_image m h5 h23
  obtain ⟨x1, f1, xJ, xR, xF, k1, k2, k3, k4, k5, k6, k8, k12, k14, c1, c2, c3, c4, c5, c6⟩ := x_tfI (L := L) x (hx6 ▸ h5)
  obtain ⟨x', g1, gJ', gR', gF, -, gB⟩ := x_im (L := L) hn (fun i hi => (hW.1 i hi).1) hW.2 n 0 1000 (gsI x1 0 2 1) (by rw [gI_n (by omega), xF _ _ (by omega), hx3, en]) (by rw [gI_n (by omega), k3, hx3, en]) (fun i hi => by rw [gR_sI, xR, if_neg (by omega)]; exact (hW.1 i hi).2.1) (by omega) (by omega)
  have yy : ∀ o c, 20 ≤ o → o ≤ 26 → gI x' o c = gI x1 o c := fun o c p q => by rw [gF _ _ (by omega), gI_n (by omega)]
  have xx : ∀ o c, ¬ (128 ≤ o ∧ (o % 4 = 0 ∧ c = 3 ∨ o % 4 = 3)) → ¬ (20 ≤ o ∧ o ≤ 26) → ¬ (o = 0 ∧ c = 2) → gI x' o c = gI x o c := fun o c p q r => by rw [gF _ _ p, gI_n r, xF _ _ q]
  have xr : ∀ o c, ¬ (o = 20 ∧ c = 15) → gR x' o c = gR x o c := fun o c p => by rw [gR', gR_sI, xR, if_neg p]
  have xj : ∀ o c, gJ x' o c = gJ x o c := fun o c => by rw [gJ', gJ_sI, xJ]
  refine ⟨nI n, x', m', ?_, ?_, ?_⟩
  · unfold f_X11_image
    rw [f1, bd_s, if_pos (show isB (1 : Int32) from Or.inr rfl), lt1_s]
    rw [li0, g1]
  · rw [e, en]
  refine ⟨hO.fr (fun o k q => xx o k (by omega) (by omega) (by omega)) (fun o k q => mF o k (by omega)), WN.fr ⟨n, hn, en, hW⟩ (fun o k p q => xx o k (by omega) (by omega) (by omega)) (fun k => xr _ _ (by omega)) (fun o k q => mF o k (by omega)), hA.fr (fun o k p q => xx o k (by omega) (by omega) (by omega)) (xr _ _ (by omega)) (fun o k q => mF o k (by omega)), hT.fr (fun o k q => xx o k (by omega) (by omega) (by omega)) (fun k => xr _ _ (by omega)) (fun o k p q => xj o k) (fun o k q => mF o k (by omega)) (fun k => mJ _ _), hN.fr (fun o k q => xx o k (by omega) (by omega) (by omega)) (fun k => xr _ _ (by omega)) (fun o k q => mF o k (by omega)), hC.fr (xr _ _ (by omega)) (mF _ _ (by omega)) (mF _ _ (by omega)), hX.fr (fun o k q => xx o k (by omega) (by omega) (by omega)) (fun o k q => mF o k (by omega)), ⟨?_, ?_, ?_⟩, fun _ => ⟨n, n, ?_, ?_, Nat.le_refl _, hn, ?_, fun i hi => ?_, ?_⟩⟩
  · rw [mF _ _ (by omega)]; exact hM.1
  · rw [m47]; exact ⟨1, by omega, rfl⟩
  · rw [m47, gF _ _ (by omega), gI_y (by omega)]; rfl
  · rw [m50, en]
  · rw [mF _ _ (by omega), en]
  · have hO' := hO
    unfold HO HS HA HR fC at *
    obtain ⟨⟨s1, s2, s3, s4, s5, s6, s7, s8, s9⟩, ⟨a1, a2, a3, a4, a5, a6⟩, r1, r2, r3, r4, r5, r6, r7, r8, r9, r10, r11, r12, r13, r14, r15⟩ := hO'
    refine ⟨⟨?_, ?_, ?_, ?_, ?_, ?_, ?_, ?_, ?_⟩, ⟨fun k hk => ?_, fun k hk => ?_, fun k hk => ?_, fun k hk => ?_, fun k hk => ?_, fun k hk => ?_⟩, ?_, ?_, ?_, ?_, ?_, ?_, ?_, ?_, ?_, fun k hk => ?_, fun k hk => ?_, fun k hk => ?_, fun k hk => ?_, fun k hk => ?_, fun k hk => ?_⟩
    · show gI x' 20 1 = gI m' 0 53; rw [yy _ _ (by omega) (by omega), k1, m53]; exact s1
    · show gI x' 20 2 = gI m' 0 54; rw [yy _ _ (by omega) (by omega), k2, m54]; exact s2
    · show gI x' 20 3 = gI m' 0 50; rw [yy _ _ (by omega) (by omega), k3, m50]; exact s3
    · show gI x' 20 4 = gI m' 0 51; rw [yy _ _ (by omega) (by omega), k4, m51]; exact s4
    · show gI x' 20 5 = gI m' 0 52; rw [yy _ _ (by omega) (by omega), k5, m52]; exact s5
    · show gI x' 20 6 = gI m' 0 48; rw [yy _ _ (by omega) (by omega), k6, m48]; exact s6
    · show gI x' 20 8 = gI m' 0 55; rw [yy _ _ (by omega) (by omega), k8, m55]; exact s7
    · show gI x' 20 12 = gI m' 0 56; rw [yy _ _ (by omega) (by omega), k12, m56]; exact s8
    · show gI x' 20 14 = gI m' 0 57; rw [yy _ _ (by omega) (by omega), k14, m57]; exact s9
    · show gI x' 21 k = gI m' 25 k; rw [yy _ _ (by omega) (by omega), c1 k hk, b1 k hk]; exact a1 k hk
    · show gI x' 22 k = gI m' 30 k; rw [yy _ _ (by omega) (by omega), c2 k hk, b16 k hk]; exact a2 k hk
    · show gI x' 23 k = gI m' 31 k; rw [yy _ _ (by omega) (by omega), c3 k hk, b21 k hk]; exact a3 k hk
    · show gI x' 24 k = gI m' 32 k; rw [yy _ _ (by omega) (by omega), c4 k hk, b22 k hk]; exact a4 k hk
    · show gI x' 25 k = gI m' 34 k; rw [yy _ _ (by omega) (by omega), c5 k hk, b23 k hk]; exact a5 k hk
    · show gI x' 26 k = gI m' 33 k; rw [yy _ _ (by omega) (by omega), c6 k hk, b24 k hk]; exact a6 k hk
    · show rg (gI m' 0 50) _; rw [m50]; exact r1
    · show rg (gI m' 0 51) _; rw [m51]; exact r2
    · show rg (gI m' 0 52) _; rw [m52]; exact r3
    · show rg (gI m' 0 53) _; rw [m53]; exact r4
    · show rg (gI m' 0 54) _; rw [m54]; exact r5
    · show rg (gI m' 0 48) _; rw [m48]; exact r6
    · show rg (gI m' 0 55) _; rw [m55]; exact r7
    · show rg (gI m' 0 56) _; rw [m56]; exact r8
    · show rg (gI m' 0 57) _; rw [m57]; exact r9
    · show rg (gI m' 25 k) _; rw [b1 k hk]; exact r10 k hk
    · show gI m' 30 k = -2 ∨ rg (gI m' 30 k) _; rw [b16 k hk]; exact r11 k hk
    · show rg (gI m' 31 k) _; rw [b21 k hk]; exact r12 k hk
    · show rg (gI m' 32 k) _; rw [b22 k hk]; exact r13 k hk
    · show rg (gI m' 34 k) _; rw [b23 k hk]; exact r14 k hk
    · show rg (gI m' 33 k) _; rw [b24 k hk]; exact r15 k hk
  · obtain ⟨q1, q2, q3, q4, q5, q6, q7, q8, q9⟩ := hW.1 i hi
    have z3 := q1.1
    have z4 := q1.2.1
    refine ⟨?_, ?_, ?_, ?_, ?_, fun j hj => ⟨?_, fun h6 => ?_⟩⟩
    · rw [b2 i (by omega)]; exact q4
    · rw [xx _ _ (by omega) (by omega) (by omega), b3 i (by omega)]; exact q5
    · rw [(gB i hi (by omega)).1, gI_n (by omega), xF _ _ (by omega), b4 i (by omega)]; exact q7
    · rw [b3 i (by omega)]; exact q6
    · rw [b4 i (by omega)]; exact q8
    · rw [b5 _ (by omega)]; exact (q9 j hj).1
    · rw [(gB i hi (by omega)).2 h6 j hj, gI_n (by omega), xF _ _ (by omega), b5 _ (by omega)]; exact (q9 j hj).2 h6
  · exact hC.mv (by rw [gR', gR_sI, xR, if_pos ⟨rfl, rfl⟩]) (mF _ _ (by omega)) m49
theorem op_undo (H : Rel L W N x m) : Op L W N (f_X11_undo L x) (f_X12_undo m) := by
  have H0 := H
  obtain ⟨hO0, hWN, hA, hT, hN, hC0, hX, hM, hI⟩ := H
  obtain ⟨z, hz, ez⟩ := hM.2.1
  have ex2 := hM.2.2
  rcases (show z = 0 ∨ z = 1 by omega) with rfl | rfl
  · refine ⟨-3, x, m, ?_, ?_, H0⟩
    · unfold f_X11_undo; rw [ex2, ez]; rfl
    · unfold f_X12_undo; rw [ez]; rfl
  obtain ⟨ni, n, e50, en, hle, hn, hO, hWI, hC⟩ := hI ez
  have hW := hWN.w en hn
  have hx6 : gI x 20 6 = gI m 0 48 := hO.1.2.2.2.2.2.1
  have hx3 : gI x 20 3 = gI m 0 50 := hO.1.2.2.1
  have h5 : isB (gI m 0 48) := rgB hO.2.2.2.2.2.2.2.1
  have h34 : ∀ c, c < 6 → isB (gI m 34 c) := fun c hc => rgB (hO.2.2.2.2.2.2.2.2.2.2.2.2.2.2.2.1 c hc)
  obtain ⟨m', e, mJ, mR, mF, m48, m49, m50, m51, m52, m53, m54, m55, m56, m57, b1, b16, b24, b2, b3, b4, b5, b21, b22, b23⟩ := m_undo m ez h5 h34
  obtain ⟨x1, f1, xJ, xR, xF, k1, k2, k3, k4, k5, k6, k8, k12, k14, c1, c2, c3, c4, c5, c6⟩ := x_tfN (L := L) x (hx6 ▸ h5)
  obtain ⟨x', g1, gJ', gR', gF, -, gB⟩ := x_un (L := L) (n := ni) (by omega) (fun i hi => (hW.1 i (by omega)).1) (fun i j hi hj => hW.2 i j (by omega) (by omega)) ni 0 1000 x1 (by rw [k3, hx3, e50]) (fun i hi => by rw [xR, if_neg (by omega)]; exact (hW.1 i (by omega)).2.1) (by omega) (by omega)
  have yy : ∀ o c, 10 ≤ o → o ≤ 16 → gI x' o c = gI x1 o c := fun o c p q => by rw [gF _ _ (by omega)]
  have xx : ∀ o c, ¬ (128 ≤ o ∧ (o % 4 = 0 ∧ c = 2 ∨ o % 4 = 2)) → ¬ (10 ≤ o ∧ o ≤ 16) → gI x' o c = gI x o c := fun o c p q => by rw [gF _ _ p, xF _ _ q]
  have xr : ∀ o c, ¬ (o = 10 ∧ c = 15) → gR x' o c = gR x o c := fun o c p => by rw [gR', xR, if_neg p]
  have xj : ∀ o c, gJ x' o c = gJ x o c := fun o c => by rw [gJ', xJ]
  refine ⟨nI ni, x', m', ?_, ?_, ?_⟩
  · unfold f_X11_undo
    rw [ex2, ez, if_neg (by decide), f1, bd_s]
    rw [li0, g1]
  · rw [e, e50]
  refine ⟨?_, ⟨ni, by omega, by rw [m50, e50], fun i hi => ?_, fun i j hi hj => hW.2 i j (by omega) (by omega)⟩, hA.fr (fun o k p q => xx o k (by omega) (by omega)) (xr _ _ (by omega)) (fun o k q => mF o k (by omega)), hT.fr (fun o k q => xx o k (by omega) (by omega)) (fun k => xr _ _ (by omega)) (fun o k p q => xj o k) (fun o k q => mF o k (by omega)) (fun k => mJ _ _), hN.fr (fun o k q => xx o k (by omega) (by omega)) (fun k => xr _ _ (by omega)) (fun o k q => mF o k (by omega)), hC.mv (by rw [gR', xR, if_pos ⟨rfl, rfl⟩]) (mF _ _ (by omega)) m49, hX.fr (fun o k q => xx o k (by omega) (by omega)) (fun o k q => mF o k (by omega)), ⟨?_, ?_, ?_⟩, fun _ => ⟨ni, ni, ?_, ?_, Nat.le_refl _, by omega, hO.fi (fun o k q => xx o k (by omega) (by omega)) (fun o k q => mF o k (by omega)), ?_, hC.fr (xr _ _ (by omega)) (mF _ _ (by omega)) (mF _ _ (by omega))⟩⟩
  · have hO' := hO
    unfold HO HS HA HR at *
    simp only [fI, aI] at hO'
    unfold fC
    obtain ⟨⟨s1, s2, s3, s4, s5, s6, s7, s8, s9⟩, ⟨a1, a2, a3, a4, a5, a6⟩, r1, r2, r3, r4, r5, r6, r7, r8, r9, r10, r11, r12, r13, r14, r15⟩ := hO'
    refine ⟨⟨?_, ?_, ?_, ?_, ?_, ?_, ?_, ?_, ?_⟩, ⟨fun k hk => ?_, fun k hk => ?_, fun k hk => ?_, fun k hk => ?_, fun k hk => ?_, fun k hk => ?_⟩, ?_, ?_, ?_, ?_, ?_, ?_, ?_, ?_, ?_, fun k hk => ?_, fun k hk => ?_, fun k hk => ?_, fun k hk => ?_, fun k hk => ?_, fun k hk => ?_⟩
    · show gI x' 10 1 = gI m' 0 3; rw [yy _ _ (by omega) (by omega), k1, m53]; exact s1
    · show gI x' 10 2 = gI m' 0 4; rw [yy _ _ (by omega) (by omega), k2, m54]; exact s2
    · show gI x' 10 3 = gI m' 0 0; rw [yy _ _ (by omega) (by omega), k3, m50]; exact s3
    · show gI x' 10 4 = gI m' 0 1; rw [yy _ _ (by omega) (by omega), k4, m51]; exact s4
    · show gI x' 10 5 = gI m' 0 2; rw [yy _ _ (by omega) (by omega), k5, m52]; exact s5
    · show gI x' 10 6 = gI m' 0 5; rw [yy _ _ (by omega) (by omega), k6, m48]; exact s6
    · show gI x' 10 8 = gI m' 0 30; rw [yy _ _ (by omega) (by omega), k8, m55]; exact s7
    · show gI x' 10 12 = gI m' 0 41; rw [yy _ _ (by omega) (by omega), k12, m56]; exact s8
    · show gI x' 10 14 = gI m' 0 45; rw [yy _ _ (by omega) (by omega), k14, m57]; exact s9
    · show gI x' 11 k = gI m' 1 k; rw [yy _ _ (by omega) (by omega), c1 k hk, b1 k hk]; exact a1 k hk
    · show gI x' 12 k = gI m' 16 k; rw [yy _ _ (by omega) (by omega), c2 k hk, b16 k hk]; exact a2 k hk
    · show gI x' 13 k = gI m' 21 k; rw [yy _ _ (by omega) (by omega), c3 k hk, b21 k hk]; exact a3 k hk
    · show gI x' 14 k = gI m' 22 k; rw [yy _ _ (by omega) (by omega), c4 k hk, b22 k hk]; exact a4 k hk
    · show gI x' 15 k = gI m' 23 k; rw [yy _ _ (by omega) (by omega), c5 k hk, b23 k hk]; exact a5 k hk
    · show gI x' 16 k = gI m' 24 k; rw [yy _ _ (by omega) (by omega), c6 k hk, b24 k hk]; exact a6 k hk
    · show rg (gI m' 0 0) _; rw [m50]; exact r1
    · show rg (gI m' 0 1) _; rw [m51]; exact r2
    · show rg (gI m' 0 2) _; rw [m52]; exact r3
    · show rg (gI m' 0 3) _; rw [m53]; exact r4
    · show rg (gI m' 0 4) _; rw [m54]; exact r5
    · show rg (gI m' 0 5) _; rw [m48]; exact r6
    · show rg (gI m' 0 30) _; rw [m55]; exact r7
    · show rg (gI m' 0 41) _; rw [m56]; exact r8
    · show rg (gI m' 0 45) _; rw [m57]; exact r9
    · show rg (gI m' 1 k) _; rw [b1 k hk]; exact r10 k hk
    · show gI m' 16 k = -2 ∨ rg (gI m' 16 k) _; rw [b16 k hk]; exact r11 k hk
    · show rg (gI m' 21 k) _; rw [b21 k hk]; exact r12 k hk
    · show rg (gI m' 22 k) _; rw [b22 k hk]; exact r13 k hk
    · show rg (gI m' 23 k) _; rw [b23 k hk]; exact r14 k hk
    · show rg (gI m' 24 k) _; rw [b24 k hk]; exact r15 k hk
  · obtain ⟨q1, q2, q3, q4, q5, q6, q7, q8, q9⟩ := hW.1 i (by omega)
    obtain ⟨w1, w2, w3, w4, w5, w6⟩ := hWI i hi
    have z3 := q1.1
    have z4 := q1.2.1
    refine ⟨q1, ?_, ?_, ?_, ?_, ?_, ?_, ?_, fun j hj => ⟨?_, fun h6 => ?_⟩⟩
    · rw [xr _ _ (by omega)]; exact q2
    · rw [xx _ _ (by omega) (by omega)]; exact q3
    · rw [b2 i (by omega)]; exact w1
    · rw [xx _ _ (by omega) (by omega), b3 i (by omega)]; exact w2
    · rw [b3 i (by omega)]; exact w4
    · rw [(gB i hi (by omega)).1, xF _ _ (by omega), b4 i (by omega)]; exact w3
    · rw [b4 i (by omega)]; exact w5
    · rw [b5 _ (by omega)]; exact (w6 j hj).1
    · rw [(gB i hi (by omega)).2 h6 j hj, xF _ _ (by omega), b5 _ (by omega)]; exact (w6 j hj).2 h6
  · rw [mF _ _ (by omega)]; exact hM.1
  · rw [mF _ _ (by omega)]; exact hM.2.1
  · rw [mF _ _ (by omega), xx _ _ (by omega) (by omega)]; exact hM.2.2
  · rw [mF _ _ (by omega)]; exact e50
  · rw [m50]; exact e50
  · exact WI.fr (fun i hi => ⟨(hW.1 i (by omega)).1.1, (hW.1 i (by omega)).1.2.1⟩) hWI (fun o k p q r => xx o k (by omega) (by omega)) (fun o k p q => mF o k (by omega))
end O9

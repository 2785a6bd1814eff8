/-! THE TEXT: where the reference closes -/
section S4
variable {B P len : Nat} {tx : Nat → Nat}
theorem m_close {m : gMem} {p : Nat} {U st : List Nat} {cs : List tok} (hP : P < 60) (hT : TXM m tx len) (h : RS B len m p cs (U ++ st)) (hU : ∀ c ∈ U, OPS 0 c) (ht : ¬ OPS 0 (tp st)) (n1 : sg tx len p ≠ 38) (n2 : sg tx len p ≠ 124) : ∃ m1, RS B len m1 p (cs ++ U.map tkS) st ∧ okE B P m m1 ∧ gI m1 11 P = nI (B + (cs ++ U.map tkS).length) ∧ ∀ F : Int32 → gMem → Option (Int32 × gMem), s_X12_takesE_22 (nI P) F 0 m = if (gI m1 0 25) = 0 then (some ((1 : Int32), m1)) else if sv (sg tx len p) = (41 : Int32) then (lt1 (gsI m1 0 25 ((gI m1 0 25) - (1 : Int32))) fun (m11 : gMem) => lt1 (gsI m11 0 26 ((gI m11 0 26) - (1 : Int32))) fun (m12 : gMem) => lt1 (gsI m12 0 14 ((gI m12 0 14) + (1 : Int32))) fun (m13 : gMem) => bd (f_X12_whole m13) fun (m14 : gMem) => (F 0 m14)) else some ((0 : Int32), m1) := by
  have hle : sg tx len p ≤ 200 := sg_200 fun k hk => (hT.2.2 k hk).2
  have hl := hT.2.1
  have hUl : U.length < 1000 := by have := h.2.2.2.2.2.2.2.2.1; have := h.2.1; rw [List.length_append] at *; omega
  obtain ⟨m1, a1, a2, a3⟩ := m_settle (P := P) (x := 124) (Or.inl ⟨rfl, rfl⟩) ht U 1000 m cs hUl hU h
  have a4 := okE.s (B := B) (P := P) m1 11 P (gI m1 0 24) (by omega)
  refine ⟨gsI m1 11 P (gI m1 0 24), ?_, a3.trans a4, ?_, fun F => ?_⟩
  · obtain ⟨r1, r2, r3, r4, r5, r6, r7, r8, r9, r10⟩ := a2
    refine ⟨?_, r2, ?_, ?_, ?_, r6.fr (fun j hj => ?_), r7.fr (fun j a b => ?_), r8, r9, r10⟩ <;> rw [gI_n (by omega)] <;> assumption
  · rw [gI_y ⟨rfl, rfl⟩]; exact a2.2.2.1
  · unfold s_X12_takesE_22
    rw [m_next hT h.1 h.2.1, bd_s, if_pos (show (0 : Int32) = 0 from rfl), jn_s, if_neg (show ¬ sv (sg tx len p) = (38 : Int32) from fun z => n1 ((sv_eq hle (by decide)).mp z)), if_neg (show ¬ sv (sg tx len p) = (124 : Int32) from fun z => n2 ((sv_eq hle (by decide)).mp z))]
    unfold f_X12_settle
    rw [show lq1 (s_X12_settle_0 (124 : Int32)) 1000 m = some m1 from a1, bd_s, if_pos (okN hP (by decide)), ixN (by omega), lt1_s]
/-- all is read -/
theorem m_end {m : gMem} {p : Nat} {U : List Nat} {cs : List tok} (hP : P < 60) (hT : TXM m tx len) (h : RS B len m p cs U) (hU : ∀ c ∈ U, OPS 0 c) (n1 : sg tx len p ≠ 38) (n2 : sg tx len p ≠ 124) (F : Int32 → gMem → Option (Int32 × gMem)) : ∃ m', s_X12_takesE_22 (nI P) F 0 m = some (1, m') ∧ RS B len m' p (cs ++ U.map tkS) [] ∧ okE B P m m' ∧ gI m' 11 P = nI (B + (cs ++ U.map tkS).length) := by
  obtain ⟨m1, a1, a2, a3, a4⟩ := m_close (st := []) hP hT (by rw [List.append_nil]; exact h) hU (show ¬ OPS 0 0 by unfold OPS; omega) n1 n2
  refine ⟨m1, ?_, a1, a2, a3⟩
  rw [a4, if_pos (show gI m1 0 25 = 0 from a1.2.2.2.1)]
/-- no ')' -/
theorem m_open2 {m : gMem} {p : Nat} {U st : List Nat} {cs : List tok} (hP : P < 60) (hT : TXM m tx len) (h : RS B len m p cs (U ++ 40 :: st)) (hU : ∀ c ∈ U, OPS 0 c) (n1 : sg tx len p ≠ 38) (n2 : sg tx len p ≠ 124) (n3 : sg tx len p ≠ 41) (F : Int32 → gMem → Option (Int32 × gMem)) : ∃ m', s_X12_takesE_22 (nI P) F 0 m = some (0, m') ∧ gI m' 0 14 = nI p ∧ okE B P m m' := by
  have hle : sg tx len p ≤ 200 := sg_200 fun k hk => (hT.2.2 k hk).2
  obtain ⟨m1, a1, a2, a3, a4⟩ := m_close hP hT h hU (show ¬ OPS 0 40 by unfold OPS; omega) n1 n2
  refine ⟨m1, ?_, a1.1, a2⟩
  have hl : st.length + 1 ≤ p := a1.2.2.2.2.2.2.2.2.1
  have hp := a1.2.1
  have hl2 := hT.2.1
  rw [a4, if_neg (show ¬ gI m1 0 25 = 0 from fun z => by
    have e : gI m1 0 25 = nI (st.length + 1) := a1.2.2.2.1
    have := nI_inj (by omega) (by decide) (e.symm.trans z : nI (st.length + 1) = nI 0)
    omega), if_neg (show ¬ sv (sg tx len p) = (41 : Int32) from fun z => n3 ((sv_eq hle (by decide)).mp z))]
/-- ')' -/
theorem m_shut {m : gMem} {p j : Nat} {U st : List Nat} {cs : List tok} (hP : P < 60) (hT : TXM m tx len) (h : RS B len m p cs (U ++ 40 :: (List.replicate j 33 ++ st))) (hU : ∀ c ∈ U, OPS 0 c) (ht : tp st ≠ 33) (hs : sg tx len p = 41) (F : Int32 → gMem → Option (Int32 × gMem)) : ∃ m', s_X12_takesE_22 (nI P) F 0 m = F 0 m' ∧ RS B len m' (p + 1) (cs ++ U.map tkS ++ List.replicate j notT) st ∧ okE B P m m' := by
  have hle : sg tx len p ≤ 200 := sg_200 fun k hk => (hT.2.2 k hk).2
  have hlt := sg_in hs (by decide)
  obtain ⟨m1, a1, a2, a3, a4⟩ := m_close hP hT h hU (show ¬ OPS 0 40 by unfold OPS; omega) (by omega) (by omega)
  generalize hq : List.replicate j 33 ++ st = s at a1
  obtain ⟨r1, r2, r3, r4, r5, r6, r7, r8, r9, r10⟩ := a1
  rw [List.length_cons] at r4 r8 r9
  have ho := opn_le s
  have e5 : gI m1 0 26 = nI (opn s + 1) := by rw [r5]; show nI (1 + opn s) = _; rw [Nat.add_comm]
  have hm : ∃ m', m' = gsI (gsI (gsI m1 0 25 (nI s.length)) 0 26 (nI (opn s))) 0 14 (nI (p + 1)) := ⟨_, rfl⟩
  obtain ⟨m', hm'⟩ := hm
  have hR : RS B len m' (p + 1) (cs ++ U.map tkS) s := by
    rw [hm']
    refine ⟨gI_y ⟨rfl, rfl⟩, hlt, ?_, ?_, ?_, r6.2.2.fr (fun i hi => ?_), r7.fr (fun i a b => ?_), by omega, by omega, r10⟩
    · simp (disch := omega) only [gI_n]; exact r3
    · simp (disch := omega) only [gI_n, gI_y]
    · simp (disch := omega) only [gI_n, gI_y]
    · simp (disch := omega) only [gI_n]
    · simp (disch := omega) only [gI_n]
  have hE : okE B P m1 m' := by
    rw [hm']
    exact ((okE.s _ _ _ _ (by omega)).trans (okE.s _ _ _ _ (by omega))).trans (okE.s _ _ _ _ (by omega))
  rw [← hq] at hR
  have hj : j < 1000 := by have := hR.2.2.2.2.2.2.2.2.1; rw [List.length_append, List.length_replicate] at this; omega
  obtain ⟨m2, d1, d2, d3⟩ := m_whole (P := P) ht j 1000 m' _ hj hR
  refine ⟨m2, ?_, d2, (a2.trans hE).trans d3⟩
  rw [a4, if_neg (show ¬ gI m1 0 25 = 0 from fun z => by
    have := nI_inj (by omega) (by decide) (r4.symm.trans z : nI (s.length + 1) = nI 0)
    omega), if_pos (show sv (sg tx len p) = (41 : Int32) from (sv_eq hle (by decide)).mpr hs), r4, show nI (s.length + 1) - 1 = nI s.length from pk_sub (a := s.length + 1) (b := 1) (by omega), lt1_s, gI_n (show ¬ (0 = 0 ∧ 26 = 25) by omega), e5, show nI (opn s + 1) - 1 = nI (opn s) from pk_sub (a := opn s + 1) (b := 1) (by omega), lt1_s, gI_n (show ¬ (0 = 0 ∧ 14 = 26) by omega), gI_n (show ¬ (0 = 0 ∧ 14 = 25) by omega), r1, nI_1, lt1_s, ← hm']
  unfold f_X12_whole
  rw [d1, bd_s]
end S4

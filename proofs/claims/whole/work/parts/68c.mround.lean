/-! THE TEXT: one round of the reference -/
section S3
variable {B P len : Nat} {tx : Nat → Nat}
theorem TXM.fe {x x' : gMem} (h : TXM x tx len) (hx : okE B P x x') : TXM x' tx len := h.ft hx.toT
theorem m_next' {m : gMem} {p c : Nat} (h : TXM m tx len) (e : gI m 0 14 = nI p) (hp : p ≤ len) (hc : sg tx len p = c) (hl : c < 200) : f_X12_next m = some (nI c) := by
  rw [m_next h e hp, hc, sv, if_neg (by omega)]
/-- 'and', 'or' -/
theorem m_push {m : gMem} {p k : Nat} {U st : List Nat} {cs : List tok} (hk : k < 2) (hT : TXM m tx len) (h : RS B len m p cs (U ++ st)) (hU : ∀ c ∈ U, OPS k c) (ht : ¬ OPS k (tp st)) (hs : sg tx len p = opS k) (F : Int32 → gMem → Option (Int32 × gMem)) : ∃ m', s_X12_takesE_22 (nI P) F 0 m = F 1 m' ∧ RS B len m' (p + 1) (cs ++ U.map tkS) (opS k :: st) ∧ okE B P m m' := by
  have hop : opS k < 200 := by unfold opS; split <;> decide
  have hlt := sg_in hs hop
  have hl := hT.2.1
  have hUl : U.length < 1000 := by have := h.2.2.2.2.2.2.2.2.1; rw [List.length_append] at this; omega
  obtain ⟨m1, a1, a2, a3⟩ := m_settle (P := P) (x := opS k) (by unfold opS; split <;> omega) ht U 1000 m cs hUl hU h
  obtain ⟨r1, r2, r3, r4, r5, r6, r7, r8, r9, r10⟩ := a2
  have hm : ∃ m', m' = gsI (gsI (gsI m1 13 st.length (nI (opS k))) 0 25 (nI (st.length + 1))) 0 14 (nI (p + 1)) := ⟨_, rfl⟩
  obtain ⟨m', hm'⟩ := hm
  refine ⟨m', ?_, ?_, a3.trans ?_⟩
  · have key : (bd (f_X12_settle m (nI (opS k))) fun (m15 : gMem) => if okI (gI m15 0 25) 101 then lt1 (gsI m15 13 (ix (gI m15 0 25)) (nI (opS k))) fun (m16 : gMem) => lt1 (gsI m16 0 25 ((gI m16 0 25) + (1 : Int32))) fun (m17 : gMem) => lt1 (gsI m17 0 14 ((gI m17 0 14) + (1 : Int32))) fun (m18 : gMem) => (F (1 : Int32) m18) else none) = F 1 m' := by
      unfold f_X12_settle
      rw [a1, bd_s, r4, if_pos (okN (by omega) (by decide)), ixN (by omega), lt1_s, gI_n (by omega), r4, nI_1, lt1_s, gI_n (by omega), gI_n (by omega), r1, nI_1, lt1_s, hm']
    unfold s_X12_takesE_22
    rw [m_next' hT h.1 h.2.1 hs hop, bd_s, if_pos (show (0 : Int32) = 0 from rfl), jn_s, key]
    by_cases q : k = 0
    · subst q
      rw [if_neg (show ¬ nI (opS 0) = (38 : Int32) by decide), if_pos (show nI (opS 0) = (124 : Int32) by decide)]
    · obtain rfl : k = 1 := by omega
      rw [if_pos (show nI (opS 1) = (38 : Int32) by decide)]
  · rw [hm']
    refine ⟨gI_y ⟨rfl, rfl⟩, hlt, ?_, ?_, ?_, ⟨?_, hop, r6.fr (fun j hj => ?_)⟩, r7.fr (fun j a b => ?_), ?_, ?_, r10⟩
    · simp (disch := omega) only [gI_n]; exact r3
    · simp (disch := omega) only [gI_n, gI_y]; rfl
    · simp (disch := omega) only [gI_n]
      rw [r5]
      show _ = nI ((if opS k = 33 ∨ opS k = 40 then 1 else 0) + opn st)
      rw [if_neg (by unfold opS; split <;> omega), Nat.zero_add]
    · simp (disch := omega) only [gI_n, gI_y]
    · simp (disch := omega) only [gI_n]
    · simp (disch := omega) only [gI_n]
    · rw [List.length_cons]; omega
    · rw [List.length_cons]; omega
  · rw [hm']
    exact ((okE.s _ _ _ _ (by omega)).trans (okE.s _ _ _ _ (by omega))).trans (okE.s _ _ _ _ (by omega))
/-- '!' and '(' -/
theorem m_open {m : gMem} {p c : Nat} {st : List Nat} {cs : List tok} (hT : TXM m tx len) (h : RS B len m p cs st) (hs : sg tx len p = c) (hc : c = 33 ∨ c = 40) (ho : opn st < 4) (F : Int32 → gMem → Option (Int32 × gMem)) : ∃ m', s_X12_takesE_22 (nI P) F 1 m = F 1 m' ∧ RS B len m' (p + 1) cs (c :: st) ∧ okE B P m m' := by
  have hlt := sg_in hs (by omega)
  have hl := hT.2.1
  obtain ⟨r1, r2, r3, r4, r5, r6, r7, r8, r9, r10⟩ := h
  have hm : ∃ m', m' = gsI (gsI (gsI (gsI m 0 26 (nI (opn st + 1))) 13 st.length (nI c)) 0 25 (nI (st.length + 1))) 0 14 (nI (p + 1)) := ⟨_, rfl⟩
  obtain ⟨m', hm'⟩ := hm
  refine ⟨m', ?_, ?_, ?_⟩
  · have key : (if (gI m 0 26) = (4 : Int32) then (some ((0 : Int32), m)) else lt1 (gsI m 0 26 ((gI m 0 26) + (1 : Int32))) fun (m22 : gMem) => if okI (gI m22 0 25) 101 then lt1 (gsI m22 13 (ix (gI m22 0 25)) (nI c)) fun (m23 : gMem) => lt1 (gsI m23 0 25 ((gI m23 0 25) + (1 : Int32))) fun (m24 : gMem) => lt1 (gsI m24 0 14 ((gI m24 0 14) + (1 : Int32))) fun (m25 : gMem) => (F 1 m25) else none) = F 1 m' := by
      rw [r5, if_neg (show ¬ nI (opn st) = (4 : Int32) from fun z => by have : opn st = 4 := nI_inj (by omega) (by decide) z; omega), nI_1, lt1_s, gI_n (show ¬ (0 = 0 ∧ 25 = 26) by omega), r4, if_pos (okN (by omega) (by decide)), ixN (by omega), lt1_s, gI_n (show ¬ (0 = 13 ∧ 25 = st.length) by omega), gI_n (show ¬ (0 = 0 ∧ 25 = 26) by omega), r4, nI_1, lt1_s, gI_n (show ¬ (0 = 0 ∧ 14 = 25) by omega), gI_n (show ¬ (0 = 13 ∧ 14 = st.length) by omega), gI_n (show ¬ (0 = 0 ∧ 14 = 26) by omega), r1, nI_1, lt1_s, hm']
    unfold s_X12_takesE_22
    rw [m_next' hT r1 r2 hs (by omega), bd_s, if_neg (show ¬ (1 : Int32) = 0 by decide), jn_s, key]
    rcases hc with q | q
    · rw [if_pos (show nI c = (33 : Int32) by rw [q]; rfl)]
    · rw [if_neg (show ¬ nI c = (33 : Int32) by rw [q]; decide), if_pos (show nI c = (40 : Int32) by rw [q]; rfl)]
  · rw [hm']
    refine ⟨gI_y ⟨rfl, rfl⟩, hlt, ?_, ?_, ?_, ⟨?_, by omega, r6.fr (fun j hj => ?_)⟩, r7.fr (fun j a b => ?_), ?_, ?_, r10⟩
    · simp (disch := omega) only [gI_n]; exact r3
    · simp (disch := omega) only [gI_n, gI_y]; rfl
    · simp (disch := omega) only [gI_n, gI_y]
      show _ = nI ((if c = 33 ∨ c = 40 then 1 else 0) + opn st)
      rw [if_pos hc, Nat.add_comm]
    · simp (disch := omega) only [gI_n, gI_y]
    · simp (disch := omega) only [gI_n]
    · simp (disch := omega) only [gI_n]
    · rw [List.length_cons]; omega
    · rw [List.length_cons]; omega
  · rw [hm']
    exact (((okE.s _ _ _ _ (by omega)).trans (okE.s _ _ _ _ (by omega))).trans (okE.s _ _ _ _ (by omega))).trans (okE.s _ _ _ _ (by omega))
theorem m_deep {m : gMem} {p : Nat} {st : List Nat} {cs : List tok} (hT : TXM m tx len) (h : RS B len m p cs st) (hc : sg tx len p = 33 ∨ sg tx len p = 40) (ho : opn st = 4) (F : Int32 → gMem → Option (Int32 × gMem)) : s_X12_takesE_22 (nI P) F 1 m = some (0, m) := by
  obtain ⟨r1, r2, r3, r4, r5, r6, r7, r8, r9, r10⟩ := h
  unfold s_X12_takesE_22
  rw [m_next' hT r1 r2 rfl (by omega), bd_s, if_neg (show ¬ (1 : Int32) = 0 by decide), jn_s, if_pos (show gI m 0 26 = (4 : Int32) by rw [r5, ho]; rfl)]
  rcases hc with q | q
  · rw [q, if_pos (show nI 33 = (33 : Int32) from rfl)]
  · rw [q, if_neg (show ¬ nI 40 = (33 : Int32) by decide), if_pos (show nI 40 = (40 : Int32) from rfl)]
/-- a test -/
theorem m_test {m : gMem} {p j : Nat} {st : List Nat} {cs : List tok} (hT : TXM m tx len) (h : RS B len m p cs (List.replicate j 33 ++ st)) (ht : tp st ≠ 33) (n33 : sg tx len p ≠ 33) (n40 : sg tx len p ≠ 40) (F : Int32 → gMem → Option (Int32 × gMem)) : ((rdT tx len p).1 = none ∧ ∃ m', s_X12_takesE_22 (nI P) F 1 m = some (0, m') ∧ gI m' 0 14 = nI (rdT tx len p).2 ∧ okE B P m m') ∨ ∃ f rl v q m', rdT tx len p = (some (f, rl, v), q) ∧ s_X12_takesE_22 (nI P) F 1 m = F 0 m' ∧ RS B len m' q (cs ++ [(0, (f, (rl, v)))] ++ List.replicate j notT) st ∧ okE B P m m' := by
  have hle : sg tx len p ≤ 200 := sg_200 fun k hk => (hT.2.2 k hk).2
  have hl := hT.2.1
  have hst : s_X12_takesE_22 (nI P) F 1 m = bd2 (f_X12_takesTest m) fun (x21 : Int32) (m20 : gMem) => if x21 = 0 then (some ((0 : Int32), m20)) else (F (0 : Int32) m20) := by
    unfold s_X12_takesE_22
    rw [m_next hT h.1 h.2.1, bd_s, if_neg (show ¬ (1 : Int32) = 0 by decide), jn_s, if_neg (show ¬ sv (sg tx len p) = (33 : Int32) from fun z => n33 ((sv_eq hle (by decide)).mp z)), if_neg (show ¬ sv (sg tx len p) = (40 : Int32) from fun z => n40 ((sv_eq hle (by decide)).mp z))]
  rw [hst]
  have hr := rdT_in (tx := tx) h.2.1
  rcases m_readTest hT h.1 h.2.1 with ⟨c1, m', c2, c3, c4⟩ | ⟨f, rl, v, q, m1, c1, c2, c3, c4⟩
  · exact Or.inl ⟨c1, m', by rw [c2, bd2_s, if_pos rfl], c3, c4.toE⟩
  · have hr2 := hr.2.2 f rl v (by rw [c1])
    rw [c1] at hr hr2
    dsimp only at hr hr2
    have h24 : gI m1 0 24 = nI (B + cs.length) := (c4.1 _ _ (by omega)).trans h.2.2.1
    have hb : B + cs.length < 600 := by have := h.2.2.2.2.2.2.2.1; omega
    have hR : RS B len (gsI (gsI m1 12 (B + cs.length) (nI (1000 * f + 100 * rl + v))) 0 24 (nI (B + cs.length + 1))) q (cs ++ [(0, (f, (rl, v)))]) (List.replicate j 33 ++ st) := by
      refine h.emit hr2.1 hr.2.1 ?_ (gI_y ⟨rfl, rfl⟩) ?_ ?_ ?_ ?_ ?_
      · simp (disch := omega) only [gI_n]; exact c3
      · simp (disch := omega) only [gI_n, gI_y]; rfl
      · intro k hk; simp (disch := omega) only [gI_n]; exact c4.1 _ _ (by omega)
      · simp (disch := omega) only [gI_n]; exact c4.1 _ _ (by omega)
      · simp (disch := omega) only [gI_n]; exact c4.1 _ _ (by omega)
      · intro k; simp (disch := omega) only [gI_n]; exact c4.1 _ _ (by omega)
    have hj : j < 1000 := by have := h.2.2.2.2.2.2.2.2.1; rw [List.length_append, List.length_replicate] at this; omega
    obtain ⟨m3, d1, d2, d3⟩ := m_whole (P := P) ht j 1000 _ _ hj hR
    refine Or.inr ⟨f, rl, v, q, m3, c1, ?_, d2, ?_⟩
    · rw [c2, m_emits h24 hb, bd_s]
      unfold f_X12_whole
      rw [d1, bd_s, bd2_s, if_neg (show ¬ (1 : Int32) = 0 by decide)]
    · exact ((c4.toE.trans (okE.s _ _ _ _ (by omega))).trans (okE.s _ _ _ _ (by omega))).trans d3
end S3

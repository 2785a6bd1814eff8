/-! THE TEXT: one CLAUSE -/
def CLR (tx : Nat → Nat) (len p : Nat) (r : Option cls) (q : Nat) : Prop := ((rdH tx len p).1 = none ∧ r = none ∧ q = (rdH tx len p).2) ∨ ∃ w, (rdH tx len p).1 = some w ∧ ((rdN tx len (rdH tx len p).2 = none ∧ r = none ∧ q = (rdH tx len p).2) ∨ ∃ v p2, rdN tx len (rdH tx len p).2 = some (v, p2) ∧ ((sg tx len p2 ≠ 32 ∧ r = none ∧ q = p2) ∨ (sg tx len p2 = 32 ∧ ((r = none ∧ PR tx len 0 0 (p2 + 1) none q) ∨ ∃ l, r = some (w, (v, l)) ∧ PR tx len 0 0 (p2 + 1) (some l) q))))
section C1
variable {B P len : Nat} {tx : Nat → Nat}
theorem m_takesE {m : gMem} {p q : Nat} {r : Option (List tok)} (hP : P < 60) (hT : TXM m tx len) (e : gI m 0 14 = nI p) (hp : p ≤ len) (e24 : gI m 0 24 = nI B) (hB : B ≤ 500 + p) (h : PR tx len 0 0 p r q) : (r = none → ∃ m', f_X12_takesE m (nI P) = some (0, m') ∧ gI m' 0 14 = nI q ∧ okT B P m m') ∧ ∀ l, r = some l → ∃ m', f_X12_takesE m (nI P) = some (1, m') ∧ gI m' 0 14 = nI q ∧ gI m' 0 24 = nI (B + l.length) ∧ gI m' 8 P = gI m 8 P ∧ gI m' 9 P = gI m 9 P ∧ gI m' 10 P = nI B ∧ gI m' 11 P = nI (B + l.length) ∧ CX (gI m' 12) tkM B l ∧ okT B P m m' := by
  have hl := hT.2.1
  have hm : ∃ m0, m0 = gsI (gsI (gsI m 0 25 0) 0 26 0) 10 P (nI B) := ⟨_, rfl⟩
  obtain ⟨m0, hm0⟩ := hm
  have st : f_X12_takesE m (nI P) = lq2 (s_X12_takesE_22 (nI P)) 1000 1 m0 := by
    unfold f_X12_takesE
    rw [lt1_s, lt1_s, if_pos (okN hP (by decide)), ixN (by omega), gI_n (by omega), gI_n (by omega), e24, lt1_s, hm0]
  have hE : okT B P m m0 := by
    rw [hm0]
    exact ((okT.s _ _ _ _ (by omega)).trans (okT.s _ _ _ _ (by omega))).trans (okT.s _ _ _ _ (by omega))
  have hR : RS B len m0 p [] ([] ++ []) := by
    rw [hm0]
    refine ⟨?_, hp, ?_, ?_, ?_, trivial, trivial, ?_, Nat.zero_le _, hl⟩
    · simp (disch := omega) only [gI_n]; exact e
    · simp (disch := omega) only [gI_n]; exact e24
    · simp (disch := omega) only [gI_n, gI_y]; rfl
    · simp (disch := omega) only [gI_n, gI_y]; rfl
    · show B + 0 + 0 ≤ _; omega
  have e10 : gI m0 10 P = nI B := by rw [hm0, gI_y ⟨rfl, rfl⟩]
  have e8 : gI m0 8 P = gI m 8 P := by rw [hm0]; simp (disch := omega) only [gI_n]
  have e9 : gI m0 9 P = gI m 9 P := by rw [hm0]; simp (disch := omega) only [gI_n]
  have hM := (PR_M (B := B) hP h).1 (by decide) 1000 m0 [] 0 [] (by omega) (fun _ => rfl) (show (0 : Nat) ≠ 33 by decide) (show ¬ OPS 0 0 by unfold OPS; decide) rfl (hT.ft hE) hR
  constructor
  · intro hr
    obtain ⟨m', a, b, c⟩ := hM.1 hr
    exact ⟨m', st.trans a, b, hE.trans c.toT⟩
  · intro l hr
    obtain ⟨U, f', m', cs', a1, a2, a3, a4, a5, a6⟩ := hM.2 l hr
    subst hr
    have hx := (PR_nx h l rfl).1 rfl
    obtain ⟨f, rfl⟩ : ∃ f, f' = f + 1 := ⟨f' - 1, by have := a4.2.1; omega⟩
    obtain ⟨m2, b1, b2, b3, b4⟩ := m_end hP ((hT.ft hE).fe a6) (by rw [List.append_nil] at a4; exact a4) a3 hx.2 hx.1 (lq2 (s_X12_takesE_22 (nI P)) f)
    have hC : cs' ++ List.map tkS U = l := by rw [a5]; simp
    rw [hC] at b2 b4
    have e := a6.trans b3
    exact ⟨m2, (st.trans a2).trans b1, b2.1, b2.2.2.1, (e.1 _ _ (by omega) (by omega) (by omega) (by omega)).trans e8, (e.1 _ _ (by omega) (by omega) (by omega) (by omega)).trans e9, (e.1 _ _ (by omega) (by omega) (by omega) (by omega)).trans e10, b4, b2.2.2.2.2.2.2.1, hE.trans e.toT⟩
theorem m_clause {m : gMem} {p q : Nat} {r : Option cls} (hP : P < 60) (hT : TXM m tx len) (e : gI m 0 14 = nI p) (hp : p ≤ len) (h6 : ∀ k, k < 13 → gI m 14 k = nI (lett k)) (e24 : gI m 0 24 = nI B) (hB : B ≤ 500 + p) (h : CLR tx len p r q) : (r = none → ∃ m', f_X12_takesClause m (nI P) = some (0, m') ∧ gI m' 0 14 = nI q ∧ okT B P m m') ∧ ∀ w v l, r = some (w, (v, l)) → ∃ m', f_X12_takesClause m (nI P) = some (1, m') ∧ gI m' 0 14 = nI q ∧ gI m' 0 24 = nI (B + l.length) ∧ gI m' 8 P = nI w ∧ gI m' 9 P = nI v ∧ gI m' 10 P = nI B ∧ gI m' 11 P = nI (B + l.length) ∧ CX (gI m' 12) tkM B l ∧ okT B P m m' := by
  have hl := hT.2.1
  have hle := rdH_le tx len p
  obtain ⟨m1, a1, a2, a3, a4, a5, a6⟩ := m_head (B := B) hT e hp h6 hP
  unfold f_X12_takesClause
  rw [a1, bd2_s]
  rcases h with ⟨c1, c2, c3⟩ | ⟨w, c1, h⟩
  · rw [c1]
    subst c2
    refine ⟨fun _ => ⟨m1, ?_, by rw [c3]; exact a2, a4⟩, fun w v l z => (by cases z)⟩
    rw [if_pos (show hb none = 0 from rfl)]
  rw [c1, if_neg (show ¬ hb (some w) = 0 by show ¬ (1 : Int32) = 0; decide)]
  have w8 := a3 w c1
  rcases m_number (hT.ft a4) a2 a5 with ⟨d1, d2⟩ | ⟨v, p2, m2, d1, d2, d3, d4, d5⟩
  · rcases h with ⟨f1, f2, f3⟩ | ⟨v, p2, f1, f2⟩
    · subst f2
      refine ⟨fun _ => ⟨m1, ?_, by rw [f3]; exact a2, a4⟩, fun w v l z => (by cases z)⟩
      rw [d2, bd2_s, if_pos rfl]
    · rw [d1] at f1; cases f1
  have hv := rdN_le d1
  have g1 : okT B P m (gsI m2 9 P (gI m2 0 15)) := (a4.trans d5.toT).trans (okT.s _ _ _ _ (by omega))
  have g2 : gI (gsI m2 9 P (gI m2 0 15)) 0 14 = nI p2 := by rw [gI_n (by omega)]; exact d3
  rw [d2, bd2_s, if_neg (show ¬ (1 : Int32) = 0 by decide), if_pos (okN hP (by decide)), ixN (by omega), lt1_s, show (32 : Int32) = nI 32 from rfl, m_takes (hT.ft g1) g2 hv.2.2 (by decide)]
  rcases h with ⟨f1, f2, f3⟩ | ⟨v', p2', f1, h⟩
  · rw [d1] at f1; cases f1
  rw [d1] at f1
  cases f1
  rcases h with ⟨f1, f2, f3⟩ | ⟨f1, h⟩
  · subst f2
    refine ⟨fun _ => ⟨_, ?_, by rw [f3]; exact g2, g1⟩, fun w v l z => (by cases z)⟩
    rw [if_neg f1, bd2_s, if_pos rfl]
  have hlt := sg_in f1 (by decide)
  have hm3 : ∃ m3, m3 = gsI (gsI m2 9 P (gI m2 0 15)) 0 14 (nI (p2 + 1)) := ⟨_, rfl⟩
  obtain ⟨m3, hm3⟩ := hm3
  have g3 : okT B P m m3 := by rw [hm3]; exact g1.trans (okT.s _ _ _ _ (by omega))
  have g14 : gI m3 0 14 = nI (p2 + 1) := by rw [hm3, gI_y ⟨rfl, rfl⟩]
  have g24 : gI m3 0 24 = nI B := by rw [hm3, gI_n (by omega), gI_n (by omega), d5.1 _ _ (by omega), a6, e24]
  have g8 : gI m3 8 P = nI w := by rw [hm3, gI_n (by omega), gI_n (by omega), d5.1 _ _ (by omega), w8]
  have g9 : gI m3 9 P = nI v := by rw [hm3, gI_n (by omega), gI_y ⟨rfl, rfl⟩, d4]
  rw [if_pos f1, bd2_s, if_neg (show ¬ (1 : Int32) = 0 by decide), ← hm3]
  rcases h with ⟨i1, i2⟩ | ⟨l, i1, i2⟩
  · subst i1
    obtain ⟨m4, j1, j2, j3⟩ := (m_takesE hP (hT.ft g3) g14 (by omega) g24 (by omega) i2).1 rfl
    refine ⟨fun _ => ⟨m4, ?_, j2, g3.trans j3⟩, fun w v l z => (by cases z)⟩
    rw [j1, bd2_s, if_pos rfl]
  · subst i1
    obtain ⟨m4, j1, j2, j3, j4, j5, j6, j7, j8, j9⟩ := (m_takesE hP (hT.ft g3) g14 (by omega) g24 (by omega) i2).2 l rfl
    refine ⟨fun z => (by cases z), fun w' v' l' z => ?_⟩
    cases z
    refine ⟨m4, ?_, j2, j3, j4.trans g8, j5.trans g9, j6, j7, j8, g3.trans j9⟩
    rw [j1, bd2_s, if_neg (show ¬ (1 : Int32) = 0 by decide)]
end C1

/-! THE TEXT: what waits and weighs no less -/
section S2
variable {B P len : Nat}
/-- the signs that a level leaves waiting -/
def OPS (k c : Nat) : Prop := (c = 38 ∧ k ≤ 1) ∨ (c = 124 ∧ k = 0)
theorem OPS_lt {k c : Nat} (h : OPS k c) : c < 200 ∧ c ≠ 33 ∧ c ≠ 40 ∧ (c = 38 ∨ c = 124) := by unfold OPS at h; omega
theorem opn_ops {k : Nat} : ∀ {U st : List Nat}, (∀ c ∈ U, OPS k c) → opn (U ++ st) = opn st
  | [], _, _ => rfl
  | c :: r, st, h => by
    have h1 := OPS_lt (h c (List.mem_cons_self ..))
    show (if c = 33 ∨ c = 40 then 1 else 0) + opn (r ++ st) = _
    rw [if_neg (by omega), opn_ops (fun d hd => h d (List.mem_cons_of_mem _ hd)), Nat.zero_add]
theorem m_settle {p k x : Nat} {st : List Nat} (hx : (k = 0 ∧ x = 124) ∨ (k = 1 ∧ x = 38)) (ht : ¬ OPS k (tp st)) : ∀ (U : List Nat) (fuel : Nat) (m : gMem) (cs : List tok), U.length < fuel → (∀ c ∈ U, OPS k c) → RS B len m p cs (U ++ st) → ∃ m', lq1 (s_X12_settle_0 (nI x)) fuel m = some m' ∧ RS B len m' p (cs ++ U.map tkS) st ∧ okE B P m m'
  | [], fuel, m, cs, hf, hU, h => by
    obtain ⟨f, rfl⟩ : ∃ f, fuel = f + 1 := ⟨fuel - 1, by omega⟩
    refine ⟨m, ?_, by rw [show cs ++ List.map tkS [] = cs from List.append_nil cs]; exact h, okE.rfl⟩
    obtain ⟨r1, r2, r3, r4, r5, r6, r7, r8, r9, r10⟩ := h
    rw [lq1_u]
    generalize lq1 (s_X12_settle_0 (nI x)) f = F
    unfold s_X12_settle_0
    cases st with
    | nil => rw [show gI m 0 25 = nI 0 from r4, if_pos (by decide)]
    | cons c r =>
      have e1 : gI m 0 25 = nI (r.length + 1) := r4
      have hl : r.length + 1 ≤ p := r9
      have e2 : gI m 13 r.length = nI c := r6.1
      have e3 : c < 200 := r6.2.1
      have ht' : ¬ OPS k c := ht
      unfold OPS at ht'
      rw [e1, if_neg (show ¬ nI (r.length + 1) ≤ (0 : Int32) from nI_ge (a := 0) (by omega) (by omega)), show nI (r.length + 1) - 1 = nI r.length from pk_sub (a := r.length + 1) (b := 1) (by omega), if_pos (okN (by omega) (by decide)), jn_s, ixN (by omega), e2, if_neg (show ¬ nI c = (38 : Int32) from fun z => by have : c = 38 := nI_inj (by omega) (by decide) z; omega), if_pos (okN (by omega) (by decide))]
      by_cases q : c = 124
      · rw [if_pos (show nI c = (124 : Int32) by rw [q]; rfl), if_pos (show nI x = (38 : Int32) by obtain rfl : x = 38 := (by omega); rfl)]
      · rw [if_neg (show ¬ nI c = (124 : Int32) from fun z => q (nI_inj (by omega) (by decide) z))]
  | c :: U, fuel, m, cs, hf, hU, h => by
    rw [List.length_cons] at hf
    obtain ⟨f, rfl⟩ : ∃ f, fuel = f + 1 := ⟨fuel - 1, by omega⟩
    have h' : RS B len m p cs (c :: (U ++ st)) := h
    have hc0 := hU c (List.mem_cons_self ..)
    have hc1 := OPS_lt hc0
    have hU' : ∀ d ∈ U, OPS k d := fun d hd => hU d (List.mem_cons_of_mem _ hd)
    have hq := h'
    generalize hs : U ++ st = s at h' hq
    obtain ⟨r1, r2, r3, r4, r5, r6, r7, r8, r9, r10⟩ := hq
    rw [List.length_cons] at r4 r8 r9
    have e2 : gI m 13 s.length = nI c := r6.1
    have e5 : gI m 0 26 = nI (opn s) := by rw [r5]; show nI ((if c = 33 ∨ c = 40 then 1 else 0) + opn s) = _; rw [if_neg (by omega), Nat.zero_add]
    have hm : ∃ m', m' = gsI (gsI (gsI m 0 25 (nI s.length)) 12 (B + cs.length) (-(nI c))) 0 24 (nI (B + cs.length + 1)) := ⟨_, rfl⟩
    obtain ⟨m', hm'⟩ := hm
    have step : s_X12_settle_0 (nI x) (lq1 (s_X12_settle_0 (nI x)) f) m = lq1 (s_X12_settle_0 (nI x)) f m' := by
      generalize lq1 (s_X12_settle_0 (nI x)) f = F
      have key : (lt1 (gsI m 0 25 (nI (s.length + 1) - (1 : Int32))) fun (m4 : gMem) => if okI (gI m4 0 25) 101 then bd (f_X12_emits m4 (-(gI m4 13 (ix (gI m4 0 25))))) fun (m5 : gMem) => (F m5) else none) = F m' := by
        rw [show nI (s.length + 1) - 1 = nI s.length from pk_sub (a := s.length + 1) (b := 1) (by omega), lt1_s, gI_y ⟨rfl, rfl⟩, if_pos (okN (by omega) (by decide)), ixN (by omega), gI_n (show ¬ (13 = 0 ∧ s.length = 25) by omega), e2, m_emits (by rw [gI_n (by omega)]; exact r3) (by omega), bd_s, hm']
      unfold s_X12_settle_0
      rw [r4, if_neg (show ¬ nI (s.length + 1) ≤ (0 : Int32) from nI_ge (a := 0) (by omega) (by omega)), jn_s]
      rw [key, show nI (s.length + 1) - 1 = nI s.length from pk_sub (a := s.length + 1) (b := 1) (by omega), if_pos (okN (by omega) (by decide)), ixN (by omega), e2]
      by_cases q : c = 38
      · rw [if_pos (show nI c = (38 : Int32) by rw [q]; rfl)]
      · have q2 : c = 124 ∧ k = 0 := by unfold OPS at hc0; omega
        rw [if_neg (show ¬ nI c = (38 : Int32) from fun z => q (nI_inj (by omega) (by decide) z)), if_pos (okN (by omega) (by decide)), if_pos (show nI c = (124 : Int32) by rw [q2.1]; rfl), if_neg (show ¬ nI x = (38 : Int32) by obtain rfl : x = 124 := (by omega); decide)]
    have ec : tkM (tkS c) = -(nI c) := by
      rcases hc1.2.2.2 with q | q <;> rw [q] <;> rfl
    have hR : RS B len m' p (cs ++ [tkS c]) s := by
      refine h'.pop ?_ ?_ ?_ ?_ ?_ ?_ ?_ <;> rw [hm']
      · simp (disch := omega) only [gI_n]
      · simp (disch := omega) only [gI_n, gI_y]
      · rw [ec]; simp (disch := omega) only [gI_n, gI_y]
      · intro k hk; simp (disch := omega) only [gI_n]
      · simp (disch := omega) only [gI_n, gI_y]
      · simp (disch := omega) only [gI_n]; exact e5
      · intro k; simp (disch := omega) only [gI_n]
    have hE : okE B P m m' := by
      rw [hm']
      exact ((okE.s _ _ _ _ (by omega)).trans (okE.s _ _ _ _ (by omega))).trans (okE.s _ _ _ _ (by omega))
    obtain ⟨m2, a1, a2, a3⟩ := m_settle hx ht U f m' (cs ++ [tkS c]) (by omega) hU' (by rw [hs]; exact hR)
    refine ⟨m2, by rw [lq1_u, step, a1], ?_, hE.trans a3⟩
    rw [List.append_assoc] at a2
    exact a2
end S2

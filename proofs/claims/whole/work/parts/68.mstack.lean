/-! THE TEXT: the reference's waiting signs -/
def okE (B P : Nat) (x x' : gMem) : Prop := (∀ o k, ¬ (o = 0 ∧ (k = 14 ∨ k = 15 ∨ k = 24 ∨ k = 25 ∨ k = 26)) → o ≠ 13 → ¬ (o = 12 ∧ B ≤ k) → ¬ (o = 11 ∧ P = k) → gI x' o k = gI x o k) ∧ (∀ o k, gJ x' o k = gJ x o k) ∧ ∀ o k, gR x' o k = gR x o k
theorem okE.rfl {B P : Nat} {x : gMem} : okE B P x x := ⟨fun _ _ _ _ _ _ => Eq.refl _, fun _ _ => Eq.refl _, fun _ _ => Eq.refl _⟩
theorem okE.trans {B P : Nat} {x y z : gMem} (h1 : okE B P x y) (h2 : okE B P y z) : okE B P x z := ⟨fun o k a b c d => (h2.1 o k a b c d).trans (h1.1 o k a b c d), fun o k => (h2.2.1 o k).trans (h1.2.1 o k), fun o k => (h2.2.2 o k).trans (h1.2.2 o k)⟩
theorem okE.toT {B P : Nat} {x x' : gMem} (h : okE B P x x') : okT B P x x' := ⟨fun o k a b c d => h.1 o k a b c (by omega), h.2⟩
theorem okA.toE {B P : Nat} {x x' : gMem} (h : okA x x') : okE B P x x' := ⟨fun o k a _ _ _ => h.1 o k (by omega), h.2⟩
theorem okE.s {B P : Nat} (x : gMem) (o k : Nat) (v : Int32) (h : (o = 0 ∧ (k = 14 ∨ k = 15 ∨ k = 24 ∨ k = 25 ∨ k = 26)) ∨ o = 13 ∨ (o = 12 ∧ B ≤ k) ∨ (o = 11 ∧ P = k)) : okE B P x (gsI x o k v) := ⟨fun o' c h1 h2 h3 h4 => gI_n (fun z => by obtain ⟨rfl, rfl⟩ := z; omega), fun _ _ => Eq.refl _, fun _ _ => Eq.refl _⟩
def opn : List Nat → Nat
  | [] => 0
  | c :: r => (if c = 33 ∨ c = 40 then 1 else 0) + opn r
def tp : List Nat → Nat
  | [] => 0
  | c :: _ => c
def WTS (m : gMem) : List Nat → Prop
  | [] => True
  | c :: r => gI m 13 r.length = nI c ∧ c < 200 ∧ WTS m r
def tkS (c : Nat) : tok := if c = 33 then notT else opT (if c = 38 then 1 else 0)
theorem WTS.fr {m m' : gMem} : ∀ {st : List Nat}, WTS m st → (∀ k, k < st.length → gI m' 13 k = gI m 13 k) → WTS m' st
  | [], _, _ => trivial
  | c :: r, h, hx => ⟨(hx _ (by rw [List.length_cons]; omega)).trans h.1, h.2.1, WTS.fr (st := r) h.2.2 (fun k hk => hx k (by rw [List.length_cons]; omega))⟩
/-- place, codes, waiting signs -/
def RS (B len : Nat) (m : gMem) (p : Nat) (cs : List tok) (st : List Nat) : Prop := gI m 0 14 = nI p ∧ p ≤ len ∧ gI m 0 24 = nI (B + cs.length) ∧ gI m 0 25 = nI st.length ∧ gI m 0 26 = nI (opn st) ∧ WTS m st ∧ CX (gI m 12) tkM B cs ∧ B + cs.length + st.length ≤ 500 + p ∧ st.length ≤ p ∧ len ≤ 100
theorem opn_le : ∀ st : List Nat, opn st ≤ st.length
  | [] => Nat.le_refl _
  | c :: r => by
    have := opn_le r
    rw [opn, List.length_cons]
    split <;> omega
section S1
variable {B P len : Nat}
/-- one waiting sign becomes a code -/
def mPop (m : gMem) (a n : Nat) (v : Int32) : gMem := gsI (gsI (gsI m 0 25 (nI n)) 12 a v) 0 24 (nI (a + 1))
theorem m_emits {m : gMem} {a : Nat} {v : Int32} (e : gI m 0 24 = nI a) (ha : a < 600) : f_X12_emits m v = some (gsI (gsI m 12 a v) 0 24 (nI (a + 1))) := by
  unfold f_X12_emits
  rw [e, if_pos (okN ha (by decide)), ixN (by omega), lt1_s, gI_n (by omega), e, nI_1, lt1_s]
theorem RS.emit {m m' : gMem} {p q : Nat} {cs : List tok} {st : List Nat} {t : tok} (h : RS B len m p cs st) (hq : p < q) (hl : q ≤ len) (h14 : gI m' 0 14 = nI q) (h24 : gI m' 0 24 = nI (B + cs.length + 1)) (h12 : gI m' 12 (B + cs.length) = tkM t) (hc : ∀ k, k < B + cs.length → gI m' 12 k = gI m 12 k) (h25 : gI m' 0 25 = gI m 0 25) (h26 : gI m' 0 26 = gI m 0 26) (h13 : ∀ k, gI m' 13 k = gI m 13 k) : RS B len m' q (cs ++ [t]) st := by
  obtain ⟨r1, r2, r3, r4, r5, r6, r7, r8, r9, r10⟩ := h
  refine ⟨h14, hl, ?_, h25.trans r4, h26.trans r5, r6.fr (fun k _ => h13 k), (r7.fr (fun k a b => hc k b)).app ⟨h12, trivial⟩, ?_, by omega, r10⟩
  · rw [h24, List.length_append]; rfl
  · rw [List.length_append]; show B + (cs.length + 1) + st.length ≤ _; omega
/-- the topmost waiting sign becomes a code -/
theorem RS.pop {m m' : gMem} {p c : Nat} {cs : List tok} {st : List Nat} (h : RS B len m p cs (c :: st)) (h14 : gI m' 0 14 = gI m 0 14) (h24 : gI m' 0 24 = nI (B + cs.length + 1)) (h12 : gI m' 12 (B + cs.length) = tkM (tkS c)) (hc : ∀ k, k < B + cs.length → gI m' 12 k = gI m 12 k) (h25 : gI m' 0 25 = nI st.length) (h26 : gI m' 0 26 = nI (opn st)) (h13 : ∀ k, gI m' 13 k = gI m 13 k) : RS B len m' p (cs ++ [tkS c]) st := by
  obtain ⟨r1, r2, r3, r4, r5, r6, r7, r8, r9, r10⟩ := h
  rw [List.length_cons] at r8 r9
  refine ⟨h14.trans r1, r2, ?_, h25, h26, r6.2.2.fr (fun k _ => h13 k), (r7.fr (fun k a b => hc k b)).app ⟨h12, trivial⟩, ?_, by omega, r10⟩
  · rw [h24, List.length_append]; rfl
  · rw [List.length_append]; show B + (cs.length + 1) + st.length ≤ _; omega
theorem m_whole {p : Nat} {st : List Nat} (ht : tp st ≠ 33) : ∀ (j fuel : Nat) (m : gMem) (cs : List tok), j < fuel → RS B len m p cs (List.replicate j 33 ++ st) → ∃ m', lq1 s_X12_whole_0 fuel m = some m' ∧ RS B len m' p (cs ++ List.replicate j notT) st ∧ okE B P m m'
  | 0, fuel, m, cs, hf, h => by
    obtain ⟨f, rfl⟩ : ∃ f, fuel = f + 1 := ⟨fuel - 1, by omega⟩
    refine ⟨m, ?_, by rw [show cs ++ List.replicate 0 notT = cs from List.append_nil cs]; exact h, okE.rfl⟩
    obtain ⟨r1, r2, r3, r4, r5, r6, r7, r8, r9, r10⟩ := h
    rw [lq1_u]
    generalize lq1 s_X12_whole_0 f = F
    unfold s_X12_whole_0
    cases st with
    | nil => rw [show gI m 0 25 = nI 0 from r4, if_pos (by decide)]
    | cons c r =>
      have e1 : gI m 0 25 = nI (r.length + 1) := r4
      have hl : r.length + 1 ≤ p := r9
      have e2 : gI m 13 r.length = nI c := r6.1
      have e3 : c < 200 := r6.2.1
      have ht' : c ≠ 33 := ht
      rw [e1, if_neg (show ¬ nI (r.length + 1) ≤ (0 : Int32) from nI_ge (a := 0) (by omega) (by omega)), show nI (r.length + 1) - 1 = nI r.length from pk_sub (a := r.length + 1) (b := 1) (by omega), if_pos (okN (by omega) (by decide)), ixN (by omega), e2, if_neg (show ¬ nI c = (33 : Int32) from fun z => ht' (nI_inj (by omega) (by decide) z))]
  | j + 1, fuel, m, cs, hf, h => by
    obtain ⟨f, rfl⟩ : ∃ f, fuel = f + 1 := ⟨fuel - 1, by omega⟩
    have h' : RS B len m p cs (33 :: (List.replicate j 33 ++ st)) := h
    have hq := h'
    generalize hs : List.replicate j 33 ++ st = s at h' hq
    obtain ⟨r1, r2, r3, r4, r5, r6, r7, r8, r9, r10⟩ := hq
    rw [List.length_cons] at r4 r8 r9
    have e2 : gI m 13 s.length = nI 33 := r6.1
    have e5 : gI m 0 26 = nI (opn s + 1) := by rw [r5]; show nI (1 + opn s) = _; rw [Nat.add_comm]
    have ho := opn_le s
    have hm : ∃ m', m' = gsI (gsI (gsI (gsI m 12 (B + cs.length) (-33)) 0 24 (nI (B + cs.length + 1))) 0 25 (nI s.length)) 0 26 (nI (opn s)) := ⟨_, rfl⟩
    obtain ⟨m', hm'⟩ := hm
    have step : s_X12_whole_0 (lq1 s_X12_whole_0 f) m = lq1 s_X12_whole_0 f m' := by
      generalize lq1 s_X12_whole_0 f = F
      unfold s_X12_whole_0
      rw [r4, if_neg (show ¬ nI (s.length + 1) ≤ (0 : Int32) from nI_ge (a := 0) (by omega) (by omega)), show nI (s.length + 1) - 1 = nI s.length from pk_sub (a := s.length + 1) (b := 1) (by omega), if_pos (okN (by omega) (by decide)), ixN (by omega), e2, if_pos (show nI 33 = (33 : Int32) from rfl), m_emits r3 (by omega), bd_s, gI_n (by omega), gI_n (by omega), r4, show nI (s.length + 1) - 1 = nI s.length from pk_sub (a := s.length + 1) (b := 1) (by omega), lt1_s, gI_n (by omega), gI_n (by omega), gI_n (by omega), e5, show nI (opn s + 1) - 1 = nI (opn s) from pk_sub (a := opn s + 1) (b := 1) (by omega), lt1_s, hm']
    have e33 : tkM (tkS 33) = -33 := rfl
    have hR : RS B len m' p (cs ++ [tkS 33]) s := by
      refine h'.pop ?_ ?_ ?_ ?_ ?_ ?_ ?_ <;> rw [hm']
      · simp (disch := omega) only [gI_n]
      · simp (disch := omega) only [gI_n, gI_y]
      · rw [e33]; simp (disch := omega) only [gI_n, gI_y]
      · intro k hk; simp (disch := omega) only [gI_n]
      · simp (disch := omega) only [gI_n, gI_y]
      · simp (disch := omega) only [gI_n, gI_y]
      · intro k; simp (disch := omega) only [gI_n]
    have hE : okE B P m m' := by
      rw [hm']
      exact (((okE.s _ _ _ _ (by omega)).trans (okE.s _ _ _ _ (by omega))).trans (okE.s _ _ _ _ (by omega))).trans (okE.s _ _ _ _ (by omega))
    obtain ⟨m2, a1, a2, a3⟩ := m_whole ht j f m' (cs ++ [tkS 33]) (by omega) (by rw [hs]; exact hR)
    refine ⟨m2, by rw [lq1_u, step, a1], ?_, hE.trans a3⟩
    rw [List.append_assoc] at a2
    exact a2
end S1

/-! THE TEXT: the reference's words -/
/-- what reading a CLAUSE may change: codes from B on, clauses from P on -/
def okT (B P : Nat) (x x' : gMem) : Prop := (∀ o k, ¬ (o = 0 ∧ (k = 14 ∨ k = 15 ∨ k = 24 ∨ k = 25 ∨ k = 26)) → o ≠ 13 → ¬ (o = 12 ∧ B ≤ k) → ¬ (8 ≤ o ∧ o ≤ 11 ∧ P ≤ k) → gI x' o k = gI x o k) ∧ (∀ o k, gJ x' o k = gJ x o k) ∧ ∀ o k, gR x' o k = gR x o k
theorem okT.rfl {B P : Nat} {x : gMem} : okT B P x x := ⟨fun _ _ _ _ _ _ => Eq.refl _, fun _ _ => Eq.refl _, fun _ _ => Eq.refl _⟩
theorem okT.trans {B P : Nat} {x y z : gMem} (h1 : okT B P x y) (h2 : okT B P y z) : okT B P x z := ⟨fun o k a b c d => (h2.1 o k a b c d).trans (h1.1 o k a b c d), fun o k => (h2.2.1 o k).trans (h1.2.1 o k), fun o k => (h2.2.2 o k).trans (h1.2.2 o k)⟩
theorem okT.mono {B P B' P' : Nat} {x x' : gMem} (h : okT B' P' x x') (hb : B ≤ B') (hp : P ≤ P') : okT B P x x' := ⟨fun o k a b c d => h.1 o k a b (fun z => c ⟨z.1, by omega⟩) (fun z => d ⟨z.1, z.2.1, by omega⟩), h.2⟩
theorem okA.toT {B P : Nat} {x x' : gMem} (h : okA x x') : okT B P x x' := ⟨fun o k a _ _ _ => h.1 o k (by omega), h.2⟩
theorem okT.s {B P : Nat} (x : gMem) (o k : Nat) (v : Int32) (h : (o = 0 ∧ (k = 14 ∨ k = 15 ∨ k = 24 ∨ k = 25 ∨ k = 26)) ∨ o = 13 ∨ (o = 12 ∧ B ≤ k) ∨ (8 ≤ o ∧ o ≤ 11 ∧ P ≤ k)) : okT B P x (gsI x o k v) := ⟨fun o' c h1 h2 h3 h4 => gI_n (fun z => by obtain ⟨rfl, rfl⟩ := z; omega), fun _ _ => Eq.refl _, fun _ _ => Eq.refl _⟩
theorem TXM.ft {B P : Nat} {x x' : gMem} {tx : Nat → Nat} {len : Nat} (h : TXM x tx len) (hx : okT B P x x') : TXM x' tx len := ⟨(hx.1 _ _ (by omega) (by omega) (by omega) (by omega)).trans h.1, h.2.1, fun k hk => ⟨(hx.1 _ _ (by omega) (by omega) (by omega) (by omega)).trans (h.2.2 k hk).1, (h.2.2 k hk).2⟩⟩
section W3
variable {tx : Nat → Nat} {len : Nat}
theorem m_word {S : (Int32 → gMem → Option (Int32 × gMem)) → Int32 → gMem → Option (Int32 × gMem)} {a n : Nat} {w : Nat → Nat} (hS : ∀ F x3 m4, S F x3 m4 = if nI n ≤ x3 then (bd2 (f_X12_takes m4 (32 : Int32)) fun (x10 : Int32) (m9 : gMem) => if isB x10 then some (x10, m9) else none) else if okI (nI a + x3) 13 then bd2 (f_X12_takes m4 (gI m4 14 (ix (nI a + x3)))) fun (x6 : Int32) (m5 : gMem) => if x6 = 0 then (some ((0 : Int32), m5)) else lt1 (x3 + (1 : Int32)) fun (x7 : Int32) => (F x7 m5) else none) (hw : ∀ i, i < n → lett (a + i) = w i ∧ w i < 200) (hn : w n = 32) (ha : a + n ≤ 13) : ∀ (d i fuel : Nat) (m : gMem) (p : Nat), d + i = n → d < fuel → TXM m tx len → gI m 0 14 = nI p → p ≤ len → (∀ k, k < 13 → gI m 14 k = nI (lett k)) → ∃ m', lq2 S fuel (nI i) m = some ((if (rdW tx len w (d + 1) i p).1 = true then 1 else 0), m') ∧ gI m' 0 14 = nI (rdW tx len w (d + 1) i p).2 ∧ okA m m' ∧ (rdW tx len w (d + 1) i p).2 ≤ len
  | 0, i, fuel, m, p, h1, h2, h3, h4, h5, h6 => by
    obtain ⟨f, rfl⟩ : ∃ f, fuel = f + 1 := ⟨fuel - 1, by omega⟩
    obtain rfl : i = n := by omega
    rw [lq2_u, hS, if_pos (nI_le (by omega) (by omega)), show (32 : Int32) = nI 32 from rfl, m_takes h3 h4 h5 (by decide), rdW, hn]
    by_cases q : sg tx len p = 32
    · have hlt := sg_in q (by decide)
      rw [if_pos q, if_pos q]
      refine ⟨gsI m 0 14 (nI (p + 1)), ?_, gI_y ⟨rfl, rfl⟩, okA.s _ _ _ (Or.inl rfl), ?_⟩
      · rw [bd2_s, if_pos (show isB 1 by decide)]; rfl
      · show p + 1 ≤ len
        omega
    · rw [if_neg q, if_neg q]
      refine ⟨m, ?_, h4, okA.rfl, h5⟩
      rw [bd2_s, if_pos (show isB 0 by decide)]; rfl
  | d + 1, i, fuel, m, p, h1, h2, h3, h4, h5, h6 => by
    obtain ⟨f, rfl⟩ : ∃ f, fuel = f + 1 := ⟨fuel - 1, by omega⟩
    obtain ⟨w1, w2⟩ := hw i (by omega)
    rw [lq2_u, hS, if_neg (nI_ge (by omega) (by omega)), nI_add, if_pos (show okI (nI (a + i)) 13 from okN (by omega) (by decide)), ixN (by omega), h6 _ (by omega), w1, m_takes h3 h4 h5 w2, rdW]
    by_cases q : sg tx len p = w i
    · have hlt := sg_in q w2
      obtain ⟨m', a1, a2, a3, a4⟩ := m_word hS hw hn ha d (i + 1) f (gsI m 0 14 (nI (p + 1))) (p + 1) (by omega) (by omega) (h3.fr (okA.s _ _ _ (Or.inl rfl))) (gI_y ⟨rfl, rfl⟩) (by omega) (fun k hk => by rw [gI_n (by omega)]; exact h6 k hk)
      rw [if_pos q, if_pos q, bd2_s, if_neg (show ¬ (1 : Int32) = 0 by decide), nI_1, lt1_s]
      exact ⟨m', a1, a2, (okA.s _ _ _ (Or.inl rfl)).trans a3, a4⟩
    · rw [if_neg q, if_neg q, bd2_s, if_pos rfl]
      exact ⟨m, rfl, h4, okA.rfl, h5⟩
theorem m_takesWord {m : gMem} {a n : Nat} {w : Nat → Nat} {p : Nat} (hw : ∀ i, i < n → lett (a + i) = w i ∧ w i < 200) (hn : w n = 32) (ha : a + n ≤ 13) (h3 : TXM m tx len) (h4 : gI m 0 14 = nI p) (h5 : p ≤ len) (h6 : ∀ k, k < 13 → gI m 14 k = nI (lett k)) : ∃ m', f_X12_takesWord m (nI a) (nI n) = some ((if (rdW tx len w (n + 1) 0 p).1 = true then 1 else 0), m') ∧ gI m' 0 14 = nI (rdW tx len w (n + 1) 0 p).2 ∧ okA m m' ∧ (rdW tx len w (n + 1) 0 p).2 ≤ len := by
  unfold f_X12_takesWord
  rw [jn_s]
  exact m_word (S := s_X12_takesWord_2 (nI n) _ (nI a)) (fun _ _ _ => rfl) hw hn ha n 0 1000 m p rfl (by omega) h3 h4 h5 h6
theorem ww0 : ∀ i, i < 4 → lett (0 + i) = wDeep i ∧ wDeep i < 200 := by decide +kernel
theorem ww1 : ∀ i, i < 5 → lett (4 + i) = wCreak i ∧ wCreak i < 200 := by decide +kernel
theorem ww2 : ∀ i, i < 4 → lett (9 + i) = wHush i ∧ wHush i < 200 := by decide +kernel
end W3

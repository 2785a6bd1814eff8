/-! quiet: the reference -/
theorem tyb_set {T b c : Nat} (hb : b < 12) (hc : c < 12) : tyb (T ||| 2 ^ b) c = if c = b then 1 else tyb T c := by
  rw [tyb_bit, tyb_bit, Nat.testBit_or, Nat.testBit_two_pow]
  by_cases h : c = b
  · subst h; simp
  · simp [h, Ne.symm h]
/-- the boards ahead of the k-th on the trail -/
def bnT (tr : Nat → Nat) : Nat → Nat
  | 0 => 0
  | k + 1 => bnT tr k ||| 2 ^ tr k
theorem bnT_le {tr : Nat → Nat} : ∀ k, (∀ j, j < k → tr j < 12) → bnT tr k ≤ 4095
  | 0, _ => Nat.zero_le _
  | k + 1, h => (setb (h k (by omega)) (bnT_le k (fun j hj => h j (by omega)))).2
theorem bnT_tyb {tr : Nat → Nat} {o : Nat} (ho : o < 12) : ∀ k, (∀ j, j < k → tr j < 12) → (tyb (bnT tr k) o = 1 ↔ ∃ j, j < k ∧ tr j = o)
  | 0, _ => ⟨fun h => by simp [bnT, tyb] at h, fun ⟨j, h, _⟩ => by omega⟩
  | k + 1, h => by
    rw [bnT, tyb_set (h k (by omega)) ho]
    have ih := bnT_tyb ho k (fun j hj => h j (by omega))
    by_cases e : o = tr k
    · rw [if_pos e]; exact ⟨fun _ => ⟨k, by omega, e.symm⟩, fun _ => rfl⟩
    · rw [if_neg e, ih]
      exact ⟨fun ⟨j, p, q⟩ => ⟨j, by omega, q⟩, fun ⟨j, p, q⟩ => ⟨j, by
        by_cases hj : j = k
        · subst hj; exact absurd q.symm e
        · omega, q⟩⟩
theorem bnT_fr {tr tr' : Nat → Nat} : ∀ k, (∀ j, j < k → tr' j = tr j) → bnT tr' k = bnT tr k
  | 0, _ => rfl
  | k + 1, h => by rw [bnT, bnT, bnT_fr k (fun j hj => h j (by omega)), h k (by omega)]
def cbd (b : Nat) : Nat → Nat
  | 0 => 0
  | d + 1 => cbd b d + if bes b (12 - (d + 1)) = true then 1 else 0
theorem cbd_3 : ∀ b, b < 12 → cbd b 12 ≤ 3 := by decide
def cost : Nat → Nat
  | 0 => 0
  | h + 1 => 13 + 3 * cost h
def QB (m : gMem) (b : Nat × Nat) : Prop := (b = (1000000, 0) ∧ gI m 0 39 = -1) ∨ (b.1 < 1000000 ∧ b.2 ≤ 8 ∧ gI m 0 39 = nI b.1 ∧ gI m 0 40 = nI b.2)
def okL (m m' : gMem) : Prop := (∀ o k, o ≠ 15 → ¬ (18 ≤ o ∧ o ≤ 20) → ¬ (o = 0 ∧ (k = 39 ∨ k = 40)) → gI m' o k = gI m o k) ∧ (∀ o k, gJ m' o k = gJ m o k) ∧ ∀ o k, gR m' o k = gR m o k
theorem okL.rfl {x : gMem} : okL x x := ⟨fun _ _ _ _ _ => Eq.refl _, fun _ _ => Eq.refl _, fun _ _ => Eq.refl _⟩
theorem okL.trans {x y z : gMem} (h1 : okL x y) (h2 : okL y z) : okL x z := ⟨fun o k a b c => (h2.1 o k a b c).trans (h1.1 o k a b c), fun o k => (h2.2.1 o k).trans (h1.2.1 o k), fun o k => (h2.2.2 o k).trans (h1.2.2 o k)⟩
theorem okL.ag {x x' : gMem} (h : okL x x') : agM x x' := ⟨fun o k q => h.1 o k (by omega) (by omega) (by omega), fun o k _ => h.2.1 o k, h.2.2⟩
theorem okM15.toL {x x' : gMem} (h : okM15 x x') : okL x x' := ⟨fun o k q _ _ => h.1 o k q, h.2.1, h.2.2⟩
theorem okL.s18 (x : gMem) (o k : Nat) (v : Int32) (h : 18 ≤ o ∧ o ≤ 20) : okL x (gsI x o k v) := ⟨fun o' c a b d => gI_n (by omega), fun _ _ => Eq.refl _, fun _ _ => Eq.refl _⟩
section Q2
variable {x m x' m' m0 : gMem} {N : Nat → List cls}
theorem m_found {k s : Nat} {best : Nat × Nat} (hk : k ≤ 8) (hs : s ≤ 10000) (e : gI m 20 k = nI s) (hq : QB m best) : ∃ m' best', f_X12_found m (nI k) = some m' ∧ (∀ o c, ¬ (o = 0 ∧ (c = 39 ∨ c = 40)) → gI m' o c = gI m o c) ∧ (∀ o c, gJ m' o c = gJ m o c) ∧ (∀ o c, gR m' o c = gR m o c) ∧ QB m' best' ∧ Best (fun e => e = (s, k)) best best' := by
  have c1 := okN (show k < 9 by omega) (show 9 < 2 ^ 31 by decide)
  have set : ∃ m', (lt1 (gsI m 0 39 (nI s)) fun (m2 : gMem) => lt1 (gsI m2 0 40 (nI k)) fun (m3 : gMem) => some m3) = some m' ∧ (∀ o c, ¬ (o = 0 ∧ (c = 39 ∨ c = 40)) → gI m' o c = gI m o c) ∧ (∀ o c, gJ m' o c = gJ m o c) ∧ (∀ o c, gR m' o c = gR m o c) ∧ QB m' (s, k) :=
    ⟨gsI (gsI m 0 39 (nI s)) 0 40 (nI k), rfl, fun o c q => by rw [gI_n (by omega), gI_n (by omega)], fun _ _ => rfl, fun _ _ => rfl, Or.inr ⟨show s < 1000000 by omega, hk, by rw [gI_n (by omega), gI_y ⟨rfl, rfl⟩], gI_y ⟨rfl, rfl⟩⟩⟩
  unfold f_X12_found
  rw [if_pos c1, ixN (by omega), e, jn_s]
  rcases hq with ⟨hb, h39⟩ | ⟨h1, h2, h39, h40⟩
  · obtain ⟨m', a1, a2, a3, a4, a5⟩ := set
    refine ⟨m', (s, k), ?_, a2, a3, a4, a5, Or.inr rfl, Or.inl (by rw [hb]; show s < 1000000; omega), fun e he => by rw [he]; exact le2_rfl _⟩
    rw [h39, if_pos (by decide), a1]
  · rw [h39, if_neg (nI_pos (by omega)), if_pos c1]
    by_cases hlt : best.1 < s
    · refine ⟨m, best, ?_, fun _ _ _ => rfl, fun _ _ => rfl, fun _ _ => rfl, Or.inr ⟨h1, h2, h39, h40⟩, Or.inl rfl, le2_rfl _, fun e he => by rw [he]; exact Or.inl hlt⟩
      rw [if_pos (nI_lt hlt (by omega))]
    · rw [if_neg (nI_nlt (by omega) (by omega)), if_pos c1, h40]
      by_cases heq : s = best.1
      · rw [if_pos (by rw [heq])]
        by_cases hk2 : k < best.2
        · obtain ⟨m', a1, a2, a3, a4, a5⟩ := set
          refine ⟨m', (s, k), ?_, a2, a3, a4, a5, Or.inr rfl, Or.inr ⟨heq, by show k ≤ best.2; omega⟩, fun e he => by rw [he]; exact le2_rfl _⟩
          rw [if_pos (nI_lt hk2 (by omega)), a1]
        · refine ⟨m, best, ?_, fun _ _ _ => rfl, fun _ _ => rfl, fun _ _ => rfl, Or.inr ⟨h1, h2, h39, h40⟩, Or.inl rfl, le2_rfl _, fun e he => by rw [he]; exact Or.inr ⟨heq.symm, by show best.2 ≤ k; omega⟩⟩
          rw [if_neg (nI_nlt (by omega) (by omega))]
      · obtain ⟨m', a1, a2, a3, a4, a5⟩ := set
        refine ⟨m', (s, k), ?_, a2, a3, a4, a5, Or.inr rfl, Or.inl (by show s < best.1; omega), fun e he => by rw [he]; exact le2_rfl _⟩
        rw [if_neg (fun z => heq (nI_inj (by omega) (by omega) z)), a1]
theorem m_trail_loop {k o : Nat} {tr : Nat → Nat} (hk : k ≤ 8) (ho : o < 12) (ht : ∀ j, j ≤ k → gI m 18 j = nI (tr j) ∧ tr j < 12) : ∀ (d j fuel : Nat), d + j = k + 1 → d < fuel → ∃ r : Nat, r ≤ 1 ∧ lq1 (s_X12_isOnTrail_2 (nI k) m (nI o)) fuel (nI j) = some (nI r) ∧ (r = 1 ↔ ∃ z, j ≤ z ∧ z < k + 1 ∧ tr z = o)
  | 0, j, fuel, h1, h2 => by
    obtain ⟨f, rfl⟩ : ∃ f, fuel = f + 1 := ⟨fuel - 1, by omega⟩
    refine ⟨0, by omega, ?_, ⟨fun h => by omega, fun ⟨z, p, q, _⟩ => by omega⟩⟩
    rw [lq1_u]
    generalize lq1 (s_X12_isOnTrail_2 (nI k) m (nI o)) f = F
    unfold s_X12_isOnTrail_2
    rw [if_pos (nI_lt (by omega) (by omega))]; rfl
  | d + 1, j, fuel, h1, h2 => by
    obtain ⟨f, rfl⟩ : ∃ f, fuel = f + 1 := ⟨fuel - 1, by omega⟩
    obtain ⟨e1, e2⟩ := ht j (by omega)
    obtain ⟨r, r1, r2, r3⟩ := m_trail_loop hk ho ht d (j + 1) f (by omega) (by omega)
    rw [lq1_u]
    generalize lq1 (s_X12_isOnTrail_2 (nI k) m (nI o)) f = F at r2 ⊢
    unfold s_X12_isOnTrail_2
    rw [if_neg (nI_nlt (by omega) (by omega)), if_pos (okN (show j < 9 by omega) (by decide)), ixN (by omega), e1]
    by_cases h : tr j = o
    · refine ⟨1, by omega, ?_, ⟨fun _ => ⟨j, by omega, by omega, h⟩, fun _ => rfl⟩⟩
      rw [if_pos (by rw [h])]; rfl
    · refine ⟨r, r1, ?_, r3.trans ⟨fun ⟨z, p, q, s⟩ => ⟨z, by omega, q, s⟩, fun ⟨z, p, q, s⟩ => ⟨z, by
        by_cases hz : z = j
        · subst hz; exact absurd s h
        · omega, q, s⟩⟩⟩
      rw [if_neg (fun z => h (nI_inj (by omega) (by omega) z)), lt1_s, nI_1, r2]
theorem m_onTrail {k o : Nat} {tr : Nat → Nat} (hk : k ≤ 8) (ho : o < 12) (ht : ∀ j, j ≤ k → gI m 18 j = nI (tr j) ∧ tr j < 12) : f_X12_isOnTrail m (nI o) (nI k) = some (nI (tyb (bnT tr (k + 1)) o)) := by
  obtain ⟨r, r1, r2, r3⟩ := m_trail_loop hk ho ht (k + 1) 0 1000 rfl (by omega)
  unfold f_X12_isOnTrail
  rw [li0, r2]
  have hb := bnT_tyb (tr := tr) ho (k + 1) (fun j hj => (ht j (by omega)).2)
  have hl := tyb_lt (bnT tr (k + 1)) o
  have e : r = tyb (bnT tr (k + 1)) o := by
    by_cases h : r = 1
    · obtain ⟨z, p, q, s⟩ := r3.mp h
      rw [h, hb.mpr ⟨z, q, s⟩]
    · have : ¬ tyb (bnT tr (k + 1)) o = 1 := fun q => h (r3.mpr (by obtain ⟨z, p, s⟩ := hb.mp q; exact ⟨z, by omega, p, s⟩))
      omega
  rw [e]
end Q2

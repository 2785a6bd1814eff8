/-! the soonest way out: the reference's sets -/
def lw3 (c : Nat) : Nat := [3, 0, 1, 0, 2, 0, 1, 0].getD c 3
/-- what comes of a set by a STEP -/
def img (n d c : Nat) : Nat := if 2 * n ≤ d then c else 2 * c % 8
def cnt (n d c s : Nat) : Nat := if c / 2 ^ s % 2 = 1 ∧ (if 2 * n ≤ d then s else s + 1) < 3 then 2 ^ (if 2 * n ≤ d then s else s + 1) else 0
theorem lw_stay : ∀ c, c < 8 → ∀ a, a < 8 → lw3 (c ||| (a / 2 ||| a % 2)) = (if a = 0 then lw3 c else min (lw3 c) (lw3 a - 1)) ∧ c ||| (a / 2 ||| a % 2) < 8 := by decide
theorem lw_c : ∀ c, c < 8 → ∀ a, a < 8 → a ≠ 0 → (lw3 (c ||| a) = min (lw3 c) (lw3 a) ∧ lw3 (c ||| 2 * a % 8) = min (lw3 c) (lw3 a + 1)) ∧ c ||| a < 8 ∧ c ||| 2 * a % 8 < 8 := by decide
theorem lw_0 : ∀ a, a < 8 → (lw3 a = 3 ↔ a = 0) ∧ lw3 a ≤ 3 := by decide
theorem cnt_img1 : ∀ a, a < 8 → ∀ c, c < 8 → ((c ||| (if a / 2 ^ 0 % 2 = 1 ∧ 0 < 3 then 2 ^ 0 else 0)) ||| (if a / 2 ^ 1 % 2 = 1 ∧ 1 < 3 then 2 ^ 1 else 0)) ||| (if a / 2 ^ 2 % 2 = 1 ∧ 2 < 3 then 2 ^ 2 else 0) = c ||| a := by decide
theorem cnt_img2 : ∀ a, a < 8 → ∀ c, c < 8 → ((c ||| (if a / 2 ^ 0 % 2 = 1 ∧ 0 + 1 < 3 then 2 ^ (0 + 1) else 0)) ||| (if a / 2 ^ 1 % 2 = 1 ∧ 1 + 1 < 3 then 2 ^ (1 + 1) else 0)) ||| (if a / 2 ^ 2 % 2 = 1 ∧ 2 + 1 < 3 then 2 ^ (2 + 1) else 0) = c ||| 2 * a % 8 := by decide
theorem cnt_img (n d a c : Nat) (ha : a < 8) (hc : c < 8) : ((c ||| cnt n d a 0) ||| cnt n d a 1) ||| cnt n d a 2 = c ||| img n d a := by
  unfold cnt img
  by_cases h : 2 * n ≤ d
  · simp only [if_pos h]; exact cnt_img1 a ha c hc
  · simp only [if_neg h]; exact cnt_img2 a ha c hc
theorem m_has : ∀ a, a < 8 → ∀ s, s < 3 → f_X12_has (nI a) (nI s) = some (nI (a / 2 ^ s % 2)) := by decide +kernel
theorem m_sh3 : ∀ s, s < 4 → (1 : Int32) <<< (nI s &&& 31) = nI (2 ^ s) := by decide +kernel
theorem m_stay8 : ∀ a, a < 8 → ((nI a >>> ((1 : Int32) &&& 31)) ||| (nI a &&& (1 : Int32))) = nI (a / 2 ||| a % 2) := by decide +kernel
def CT (m : gMem) (C : Nat → Nat) : Prop := ∀ k, k < 396 → gI m 17 k = nI (C k)
def ok1517 (x x' : gMem) : Prop := (∀ o k, o ≠ 15 → o ≠ 17 → gI x' o k = gI x o k) ∧ (∀ o k, gJ x' o k = gJ x o k) ∧ ∀ o k, gR x' o k = gR x o k
theorem ok1517.rfl {x : gMem} : ok1517 x x := ⟨fun _ _ _ _ => Eq.refl _, fun _ _ => Eq.refl _, fun _ _ => Eq.refl _⟩
theorem ok1517.trans {x y z : gMem} (h1 : ok1517 x y) (h2 : ok1517 y z) : ok1517 x z := ⟨fun o k h h' => (h2.1 o k h h').trans (h1.1 o k h h'), fun o k => (h2.2.1 o k).trans (h1.2.1 o k), fun o k => (h2.2.2 o k).trans (h1.2.2 o k)⟩
theorem ok1517.ag {x x' : gMem} (h : ok1517 x x') : agM x x' := ⟨fun o k q => h.1 o k (by omega) (by omega), fun o k _ => h.2.1 o k, h.2.2⟩
theorem ok1517.set (x : gMem) (k : Nat) (v : Int32) : ok1517 x (gsI x 17 k v) := ⟨fun o c _ h => gI_n (by omega), fun _ _ => Eq.refl _, fun _ _ => Eq.refl _⟩
theorem okM15.to {x x' : gMem} (h : okM15 x x') : ok1517 x x' := ⟨fun o k q _ => h.1 o k q, h.2.1, h.2.2⟩
def styC (C : Nat → Nat) (g b k : Nat) : Nat := if k = g * 12 + 12 + b then C k ||| (C (g * 12 + b) / 2 ||| C (g * 12 + b) % 2) else C k
/-- the boards below 'to' are done -/
def trC (C : Nat → Nat) (g b t : Nat) (nzf : Nat → Nat) (dt to k : Nat) : Nat := if k / 12 = t ∧ k % 12 < to ∧ bes b (k % 12) = true ∧ nzf (k % 12) ≤ dt then C k ||| img (nzf (k % 12)) dt (C (g * 12 + b)) else C k
section W2
variable {x m x' m' m0 : gMem} {N : Nat → List cls} {i kd v T : Nat} {row cr : Nat → Nat}
theorem MN.f (h : MN x m N i kd v row cr T) (hm : ok1517 m m') : MN x m' N i kd v row cr T := h.fr (fun o k q => hm.1 o k (by omega) (by omega))
theorem m_stays {C : Nat → Nat} (h : CT m C) (h8 : ∀ k, C k < 8) {g b : Nat} (hg : g ≤ 30) (hb : b < 12) : ∃ m', f_X12_stays m (nI g) (nI b) = some m' ∧ ok1517 m m' ∧ CT m' (styC C g b) := by
  have e1 := h (g * 12 + b) (by omega)
  have e2 := h (g * 12 + 12 + b) (by omega)
  refine ⟨gsI m 17 (g * 12 + 12 + b) (nI (C (g * 12 + 12 + b) ||| (C (g * 12 + b) / 2 ||| C (g * 12 + b) % 2))), ?_, ok1517.set _ _ _, fun k hk => ?_⟩
  · unfold f_X12_stays
    rw [li12, pk_mul, nI_add, nI_add, nI_add, Nat.mul_comm 12 g, if_pos (okN (show g * 12 + b < 396 by omega) (by decide)), ixN (show g * 12 + b < 2 ^ 31 by omega), e1, lt1_s, if_pos (okN (show g * 12 + 12 + b < 396 by omega) (by decide)), if_pos (okN (show g * 12 + 12 + b < 396 by omega) (by decide)), ixN (show g * 12 + 12 + b < 2 ^ 31 by omega), e2, m_stay8 _ (h8 _), nI_or, lt1_s]
  · unfold styC
    by_cases hk2 : k = g * 12 + 12 + b
    · subst hk2; rw [gI_y ⟨rfl, rfl⟩, if_pos rfl]
    · rw [gI_n (by omega), if_neg hk2, h k hk]
theorem m_tr_step {C : Nat → Nat} (h : CT m C) (h8 : ∀ k, C k < 8) {g b t o n d s : Nat} (hg : g ≤ 30) (hb : b < 12) (ho : o < 12) (htg : g + 1 ≤ t) (ht : t ≤ 32) (hn : n ≤ 2000) (hd : d ≤ 2000) (hs : s < 3) (j9 : gMem → Option gMem) (F : Int32 → gMem → Option gMem) : ∃ m', s_X12_treads_70 (nI g) (nI b) (nI t) (nI o) (nI n) (nI d) j9 F (nI s) m = F (nI (s + 1)) m' ∧ ok1517 m m' ∧ CT m' (fun k => if k = t * 12 + o then C k ||| cnt n d (C (g * 12 + b)) s else C k) := by
  have e1 := h (g * 12 + b) (by omega)
  have e2 := h (t * 12 + o) (by omega)
  have hh := m_has _ (h8 (g * 12 + b)) s hs
  have hthen : ∀ J : Int32 → Option gMem, (jn J fun j15 => if (2 : Int32) * nI n ≤ nI d then j15 (nI s) else j15 (nI s + 1)) = J (nI (if 2 * n ≤ d then s else s + 1)) := by
    intro J
    simp only [jn]
    by_cases hc : 2 * n ≤ d
    · rw [if_pos hc, if_pos (show (2 : Int32) * nI n ≤ nI d by rw [li2, pk_mul]; exact nI_le hc (by omega))]
    · rw [if_neg hc, if_neg (show ¬ (2 : Int32) * nI n ≤ nI d by rw [li2, pk_mul]; exact nI_ge (by omega) (by omega)), nI_1]
  unfold s_X12_treads_70
  rw [if_neg (show ¬ (3 : Int32) ≤ nI s from nI_ge (b := 3) hs (by decide)), hthen]
  have hst : (if 2 * n ≤ d then s else s + 1) < 4 := by split <;> omega
  rw [li12, pk_mul, nI_add, pk_mul, nI_add, Nat.mul_comm 12 g, Nat.mul_comm 12 t, if_pos (okN (show g * 12 + b < 396 by omega) (by decide)), ixN (show g * 12 + b < 2 ^ 31 by omega), e1, hh, bd_s]
  simp only [jn]
  unfold cnt
  generalize (if 2 * n ≤ d then s else s + 1) = z at *
  have hm2 := Nat.mod_lt (C (g * 12 + b) / 2 ^ s) (show 0 < 2 by decide)
  by_cases hb1 : C (g * 12 + b) / 2 ^ s % 2 = 1
  · rw [hb1, if_neg (show ¬ nI 1 = 0 by decide)]
    by_cases hz : z < 3
    · refine ⟨gsI m 17 (t * 12 + o) (nI (C (t * 12 + o) ||| 2 ^ z)), ?_, ok1517.set _ _ _, fun k hk => ?_⟩
      · rw [if_neg (show ¬ (3 : Int32) ≤ nI z from nI_ge (b := 3) hz (by decide)), if_pos (okN (show t * 12 + o < 396 by omega) (by decide)), if_pos (okN (show t * 12 + o < 396 by omega) (by decide)), ixN (show t * 12 + o < 2 ^ 31 by omega), e2, m_sh3 z hst, nI_or, lt1_s, lt1_s, nI_1]
      · dsimp only
        by_cases hk2 : k = t * 12 + o
        · subst hk2; rw [gI_y ⟨rfl, rfl⟩, if_pos rfl, if_pos ⟨rfl, hz⟩]
        · rw [gI_n (by omega), if_neg hk2, h k hk]
    · refine ⟨m, ?_, ok1517.rfl, fun k hk => ?_⟩
      · rw [if_pos (show (3 : Int32) ≤ nI z from nI_le (a := 3) (by omega) (by omega)), lt1_s, nI_1]
      · dsimp only
        have hz0 : (if 1 = 1 ∧ z < 3 then 2 ^ z else 0) = 0 := if_neg (fun q => hz q.2)
        rw [hz0, Nat.or_zero, h k hk]
        split <;> rfl
  · have hb0 : C (g * 12 + b) / 2 ^ s % 2 = 0 := by omega
    refine ⟨m, ?_, ok1517.rfl, fun k hk => ?_⟩
    · rw [hb0, if_pos (show nI 0 = 0 from rfl), lt1_s, nI_1]
    · dsimp only
      have hz0 : (if C (g * 12 + b) / 2 ^ s % 2 = 1 ∧ z < 3 then 2 ^ z else 0) = 0 := if_neg (fun q => hb1 q.1)
      rw [hz0, Nat.or_zero, h k hk]
      split <;> rfl
theorem cnt_lt {n d a s : Nat} (hs : s < 3) : cnt n d a s < 8 := by
  unfold cnt
  by_cases h : a / 2 ^ s % 2 = 1 ∧ (if 2 * n ≤ d then s else s + 1) < 3
  · rw [if_pos h]
    have h2 := h.2
    generalize (if 2 * n ≤ d then s else s + 1) = z at *
    rcases (show z = 0 ∨ z = 1 ∨ z = 2 by omega) with rfl | rfl | rfl <;> decide
  · rw [if_neg h]; decide
theorem m_tr_inner {C : Nat → Nat} (h : CT m C) (h8 : ∀ k, C k < 8) {g b t o n d : Nat} (hg : g ≤ 30) (hb : b < 12) (ho : o < 12) (htg : g + 1 ≤ t) (ht : t ≤ 32) (hn : n ≤ 2000) (hd : d ≤ 2000) (j9 : gMem → Option gMem) : ∃ m', lq2 (s_X12_treads_70 (nI g) (nI b) (nI t) (nI o) (nI n) (nI d) j9) 1000 (nI 0) m = j9 m' ∧ ok1517 m m' ∧ CT m' (fun k => if k = t * 12 + o then C k ||| img n d (C (g * 12 + b)) else C k) := by
  have hne : ¬ (g * 12 + b = t * 12 + o) := by omega
  have l8 : ∀ a c : Nat, a < 8 → c < 8 → a ||| c < 8 := fun a c ha hc => Nat.or_lt_two_pow (n := 3) ha hc
  obtain ⟨m1, a1, a2, a3⟩ := m_tr_step h h8 hg hb ho htg ht hn hd (s := 0) (by decide) j9 (lq2 (s_X12_treads_70 (nI g) (nI b) (nI t) (nI o) (nI n) (nI d) j9) 999)
  have u8 : ∀ (A : Nat → Nat) (v j : Nat), (∀ k, A k < 8) → v < 8 → ∀ k, (if k = j then A k ||| v else A k) < 8 := by
    intro A v j hA hv k
    split
    · exact l8 _ _ (hA k) hv
    · exact hA k
  have w1 := u8 C (cnt n d (C (g * 12 + b)) 0) (t * 12 + o) h8 (cnt_lt (by decide))
  obtain ⟨m2, b1, b2, b3⟩ := m_tr_step a3 w1 hg hb ho htg ht hn hd (s := 1) (by decide) j9 (lq2 (s_X12_treads_70 (nI g) (nI b) (nI t) (nI o) (nI n) (nI d) j9) 998)
  obtain ⟨m3, c1, c2, c3⟩ := m_tr_step b3 (u8 _ _ _ w1 (cnt_lt (by decide))) hg hb ho htg ht hn hd (s := 2) (by decide) j9 (lq2 (s_X12_treads_70 (nI g) (nI b) (nI t) (nI o) (nI n) (nI d) j9) 997)
  refine ⟨m3, ?_, (a2.trans b2).trans c2, fun k hk => ?_⟩
  · rw [lq2_u, a1, lq2_u, b1, lq2_u, c1, lq2_u]
    generalize lq2 (s_X12_treads_70 (nI g) (nI b) (nI t) (nI o) (nI n) (nI d) j9) 996 = F
    unfold s_X12_treads_70
    rw [if_pos (show (3 : Int32) ≤ nI (2 + 1) by decide)]
  · rw [c3 k hk]
    simp only [if_neg hne]
    by_cases hk2 : k = t * 12 + o
    · simp only [if_pos hk2]
      rw [cnt_img _ _ _ _ (h8 _) (h8 _)]
    · simp only [if_neg hk2]
theorem trC_8 {C : Nat → Nat} (h8 : ∀ k, C k < 8) {g b t dt to k : Nat} {nzf : Nat → Nat} : trC C g b t nzf dt to k < 8 := by
  unfold trC
  split
  · refine Nat.or_lt_two_pow (n := 3) (h8 _) ?_
    unfold img
    split
    · exact h8 _
    · exact Nat.mod_lt _ (by decide)
  · exact h8 _
theorem m_tr_loop (M : MN x m0 N i kd v row cr T) {C : Nat → Nat} (h8 : ∀ k, C k < 8) {g b t0 dt : Nat} (hg : g ≤ 30) (hb : b < 12) (ht0 : t0 ≤ 30000) (hdt : dt ≤ 2000) : ∀ (d o fuel : Nat) (m : gMem), ok1517 m0 m → CT m (trC C g b (g + tmN kd) (fun o => nzG (curP N m0) kd v row cr T o (t0 + (g + tmN kd))) dt o) → d + o = 12 → d < fuel → ∃ m', lq2 (s_X12_treads_23 (nI b) (nI i) (nI t0) (nI (g + tmN kd)) (nI dt) (nI g)) fuel (nI o) m = some m' ∧ ok1517 m0 m' ∧ CT m' (trC C g b (g + tmN kd) (fun o => nzG (curP N m0) kd v row cr T o (t0 + (g + tmN kd))) dt 12)
  | 0, o, fuel, m, hm, h, h1, h2 => by
    obtain ⟨f, rfl⟩ : ∃ f, fuel = f + 1 := ⟨fuel - 1, by omega⟩
    have ho : o = 12 := by omega
    subst ho
    refine ⟨m, ?_, hm, h⟩
    rw [lq2_u]
    generalize lq2 (s_X12_treads_23 (nI b) (nI i) (nI t0) (nI (g + tmN kd)) (nI dt) (nI g)) f = F
    unfold s_X12_treads_23
    rw [if_pos (by decide)]
  | d + 1, o, fuel, m, hm, h, h1, h2 => by
    obtain ⟨f, rfl⟩ : ∃ f, fuel = f + 1 := ⟨fuel - 1, by omega⟩
    have ho : o < 12 := by omega
    have htm := tmN_le kd
    have ih := fun (m1 : gMem) (hm1 : ok1517 m0 m1) (h' : CT m1 (trC C g b (g + tmN kd) (fun o => nzG (curP N m0) kd v row cr T o (t0 + (g + tmN kd))) dt (o + 1))) => m_tr_loop M h8 hg hb ht0 hdt d (o + 1) f m1 hm1 h' (by omega) (by omega)
    rw [lq2_u]
    generalize lq2 (s_X12_treads_23 (nI b) (nI i) (nI t0) (nI (g + tmN kd)) (nI dt) (nI g)) f = F at ih ⊢
    unfold s_X12_treads_23
    rw [if_neg (show ¬ (12 : Int32) ≤ nI o from nI_ge (b := 12) ho (by decide)), m_bes1 b hb o ho, bd_s]
    by_cases hbs : bes b o = true
    rotate_left
    · obtain ⟨m', a1, a2, a3⟩ := ih m hm (fun k hk => by
        rw [h k hk]
        congr 1
        unfold trC
        by_cases hc : k / 12 = g + tmN kd ∧ k % 12 < o ∧ bes b (k % 12) = true ∧ nzG (curP N m0) kd v row cr T (k % 12) (t0 + (g + tmN kd)) ≤ dt
        · rw [if_pos hc, if_pos ⟨hc.1, by omega, hc.2.2⟩]
        · rw [if_neg hc, if_neg (fun q => by
            by_cases hk2 : k % 12 = o
            · rw [hk2] at q; exact hbs q.2.2.1
            · exact hc ⟨q.1, by omega, q.2.2⟩)])
      refine ⟨m', ?_, a2, a3⟩
      rw [if_neg hbs, ← a1]
      simp only [jn]
      rw [if_pos (show nI 0 = 0 from rfl), lt1_s, nI_1]
    · obtain ⟨m1, e1, e2⟩ := (M.f hm).noise (b := o) (t := t0 + (g + tmN kd)) ho (by omega)
      rw [curP_fr (N := N) (hm.1 0 12 (by decide) (by decide))] at e1
      have hle := M.le (b := o) ho (t0 + (g + tmN kd))
      have h1' : CT m1 (trC C g b (g + tmN kd) (fun o => nzG (curP N m0) kd v row cr T o (t0 + (g + tmN kd))) dt o) := fun k hk => (e2.1 _ _ (by decide)).trans (h k hk)
      by_cases hnd : nzG (curP N m0) kd v row cr T o (t0 + (g + tmN kd)) ≤ dt
      · obtain ⟨m2, b1, b2, b3⟩ := m_tr_inner h1' (fun k => trC_8 h8) hg hb ho (show g + 1 ≤ g + tmN kd by omega) (show g + tmN kd ≤ 32 by omega) (n := nzG (curP N m0) kd v row cr T o (t0 + (g + tmN kd))) (by omega) (show dt ≤ 2000 by omega) (fun (m22 : gMem) => lt1 (nI o + (1 : Int32)) fun (x23 : Int32) => F x23 m22)
        obtain ⟨m', a1, a2, a3⟩ := ih m2 ((hm.trans e2.to).trans b2) (fun k hk => by
          rw [b3 k hk]
          dsimp only
          have hsrc : trC C g b (g + tmN kd) (fun o => nzG (curP N m0) kd v row cr T o (t0 + (g + tmN kd))) dt o (g * 12 + b) = C (g * 12 + b) := by
            unfold trC; rw [if_neg (by omega)]
          rw [hsrc]
          congr 1
          unfold trC
          dsimp only
          by_cases hk2 : k = (g + tmN kd) * 12 + o
          · have hko : k % 12 = o := by omega
            rw [if_pos hk2, hko, if_neg (by omega), if_pos ⟨by omega, by omega, hbs, hnd⟩]
          · rw [if_neg hk2]
            by_cases hc : k / 12 = g + tmN kd ∧ k % 12 < o ∧ bes b (k % 12) = true ∧ nzG (curP N m0) kd v row cr T (k % 12) (t0 + (g + tmN kd)) ≤ dt
            · rw [if_pos hc, if_pos ⟨hc.1, by omega, hc.2.2⟩]
            · rw [if_neg hc, if_neg (fun q => hc ⟨q.1, by have := q.1; have := q.2.1; omega, q.2.2⟩)])
        refine ⟨m', ?_, a2, a3⟩
        rw [if_pos hbs, ← a1]
        simp only [jn]
        rw [if_neg (show ¬ nI 1 = 0 by decide), nI_add, e1, bd2_s, if_pos (nI_le hnd (by omega)), li0, b1, lt1_s, nI_1]
      · obtain ⟨m', a1, a2, a3⟩ := ih m1 (hm.trans e2.to) (fun k hk => by
          rw [h1' k hk]
          congr 1
          unfold trC
          by_cases hc : k / 12 = g + tmN kd ∧ k % 12 < o ∧ bes b (k % 12) = true ∧ nzG (curP N m0) kd v row cr T (k % 12) (t0 + (g + tmN kd)) ≤ dt
          · rw [if_pos hc, if_pos ⟨hc.1, by omega, hc.2.2⟩]
          · rw [if_neg hc, if_neg (fun q => by
              by_cases hk2 : k % 12 = o
              · rw [hk2] at q; exact hnd q.2.2.2
              · exact hc ⟨q.1, by omega, q.2.2⟩)])
        refine ⟨m', ?_, a2, a3⟩
        rw [if_pos hbs, ← a1]
        simp only [jn]
        rw [if_neg (show ¬ nI 1 = 0 by decide), nI_add, e1, bd2_s, if_neg (nI_ge (by omega) (by omega)), lt1_s, nI_1]
end W2

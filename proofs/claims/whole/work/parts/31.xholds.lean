theorem x_test {L : List Nat} {x : gMem} {fx : Nat → Nat} (hf : ∀ k, k < 6 → gI x 17 k = nI (fx k)) (hb : ∀ k, k < 6 → fx k < 2 ^ 31) {f s n : Nat} (h1 : f < 6) (h2 : s < 3) (h3 : n < 100) :
    f_X3_testHolds L x (nI (300 * f + 100 * s + n)) = some (if tst (fx f) s n then 1 else 0) := by
  have hfb := hb f h1
  have e1 : nI (300 * f + 100 * s + n) / (300 : Int32) = nI f := by
    rw [show (300 : Int32) = nI 300 from rfl, pk_div (by omega) (by omega) (by omega)]; congr 1; omega
  have e2 : nI (300 * f + 100 * s + n) - nI (300 * f + 100 * s + n) / (100 : Int32) * (100 : Int32) = nI n := by
    rw [show (100 : Int32) = nI 100 from rfl, rem_nI (by omega) (by omega) (by omega)]; congr 1; omega
  have e3 : nI (300 * f + 100 * s + n) / (100 : Int32) = nI (3 * f + s) := by
    rw [show (100 : Int32) = nI 100 from rfl, pk_div (by omega) (by omega) (by omega)]; congr 1; omega
  have e4 : nI (3 * f + s) - nI (3 * f + s) / (3 : Int32) * (3 : Int32) = nI s := by
    rw [show (3 : Int32) = nI 3 from rfl, rem_nI (by omega) (by omega) (by omega)]; congr 1; omega
  unfold f_X3_testHolds
  simp only [lt1]
  rw [e1, e2, e3, e4]
  rw [if_neg (nI_pos (by omega)), if_pos (show nI f < 6 from nI_lt (b := 6) (by omega) (by omega)), if_pos (okN h1 (by omega)), ixN (by omega), hf f h1]
  rcases (show s = 0 ∨ s = 1 ∨ s = 2 by omega) with rfl | rfl | rfl
  · rw [if_pos rfl]
    by_cases hc : n ≤ fx f
    · rw [if_pos ((nI_leI (by omega) hfb).mpr hc)]
      simp [tst]; omega
    · rw [if_neg (fun z => hc ((nI_leI (by omega) hfb).mp z))]
      simp [tst]; omega
  · rw [if_neg (by decide), if_pos rfl]
    by_cases hc : fx f = n
    · rw [if_pos (by rw [hc])]; simp [tst, hc]
    · rw [if_neg (fun z => hc (nI_inj hfb (by omega) z))]; simp [tst, hc]
  · rw [if_neg (by decide), if_neg (by decide)]
    by_cases hc : fx f ≤ n
    · rw [if_pos ((nI_leI hfb (by omega)).mpr hc)]
      simp [tst]; omega
    · rw [if_neg (fun z => hc ((nI_leI hfb (by omega)).mp z))]
      simp [tst]; omega
theorem tkX_test {f s n : Nat} : tkX (0, f, s, n) = nI (300 * f + 100 * s + n) := rfl
theorem enc_push (b : Bool) (st : List Bool) : enc (b :: st) = (if b then 1 else 0) + 2 * enc st := rfl
theorem x_holds_loop {L : List Nat} {x : gMem} {fx : Nat → Nat} (hf : ∀ k, k < 6 → gI x 17 k = nI (fx k)) (hb : ∀ k, k < 6 → fx k < 2 ^ 31) {g e : Nat} (he : e ≤ 100) (j2 : Int64 → Option Int32) :
    ∀ (p : List tok) (i : Nat) (st : List Bool) (fuel k : Nat), p.length < fuel → i + p.length = e → (∀ t ∈ p, tkok t) → (∀ j (hj : j < p.length), gI x (g + 4) (i + j) = tkX p[j]) → hgt 20 p st.length = some k → st.length ≤ 20 →
      lq2 (s_X3_holds_10 (nI e) j2 x g L) fuel (lN (enc st)) (nI i) = j2 (lN (enc (ev fx p st))) := by
  intro p
  induction p with
  | nil =>
    intro i st fuel k h1 h2 h3 h4 h5 h6
    obtain ⟨n, rfl⟩ : ∃ n, fuel = n + 1 := ⟨fuel - 1, by simp at h1; omega⟩
    simp only [lq2]
    unfold s_X3_holds_10
    rw [if_pos (nI_le (by simp at h2; omega) (by simp at h2; omega))]
    rfl
  | cons t r ih =>
    intro i st fuel k h1 h2 h3 h4 h5 h6
    obtain ⟨n, rfl⟩ : ∃ n, fuel = n + 1 := ⟨fuel - 1, by simp at h1; omega⟩
    have hi : i < e := by simp at h2; omega
    have hc := h4 0 (by simp)
    simp only [Nat.add_zero, List.getElem_cons_zero] at hc
    have ht := h3 t List.mem_cons_self
    have hE : enc st < 2 ^ 20 := Nat.lt_of_lt_of_le (enc_lt st) (Nat.pow_le_pow_right (by decide) h6)
    have next : ∀ st' : List Bool, st' = ev1 fx t st → hgt 20 r st'.length = some k → st'.length ≤ 20 → lq2 (s_X3_holds_10 (nI e) j2 x g L) n (lN (enc st')) (nI i + 1) = j2 (lN (enc (ev fx (t :: r) st))) := by
      intro st' e1 e2 e3
      rw [nI_1, ih (i + 1) st' n k (by simp at h1; omega) (by simp at h2; omega) (fun t ht => h3 t (List.mem_cons_of_mem _ ht)) (fun j hj => by
        have := h4 (j + 1) (by simp; omega)
        rw [show i + 1 + j = i + (j + 1) by omega, this, List.getElem_cons_succ]) e2 e3, ev, e1]
    simp only [lq2]
    unfold s_X3_holds_10
    rw [if_neg (nI_ge hi (by omega)), if_neg (nI_ge (b := 100) (by omega) (by omega))]
    simp only [lt1, jn]
    rw [if_pos (okN (show i < 100 by omega) (by omega)), ixN (by omega), hc]
    obtain ⟨z, f, s, m⟩ := t
    obtain ⟨hz, hf6, hs3, hm⟩ := ht
    simp only at hz hf6 hs3 hm
    match z, hz with
    | 0, _ =>
      rw [tkX_test, if_neg (nI_pos (by omega)), x_test hf hb hf6 hs3 hm]
      simp only [bd]
      simp only [hgt] at h5
      split at h5
      · rename_i hB
        have hp := next (tst (fx f) s m :: st) rfl (by simpa using h5) (by simpa using hB)
        by_cases hq : tst (fx f) s m = true
        · rw [hq] at hp ⊢
          rw [if_pos rfl, if_neg (by decide), lN_shl1, show ((1 : Int32).toInt64) = lN 1 by decide, lN_orc]
          rw [show (2 * enc st ||| 1) = enc (true :: st) by
            have := Nat.two_pow_add_eq_or_of_lt (i := 1) (b := 1) (by decide) (enc st)
            rw [enc_push]; simp at this ⊢; omega]
          exact hp
        · have hq : tst (fx f) s m = false := by simpa using hq
          rw [hq] at hp ⊢
          rw [if_neg (by decide), if_pos rfl, lN_shl1, show ((0 : Int32).toInt64) = lN 0 by decide, lN_orc]
          rw [show (2 * enc st ||| 0) = enc (false :: st) by rw [enc_push]; simp]
          exact hp
      · cases h5
    | 1, _ =>
      rw [show tkX (1, f, s, m) = -1 from rfl, if_pos (by decide), if_pos rfl]
      simp only [hgt] at h5
      split at h5
      · cases st with
        | nil => rename_i h0; cases h0
        | cons a st =>
          have hp := next ((!a) :: st) rfl (by simpa using h5) (by simpa using h6)
          rw [show (1 : Int64) = lN 1 by decide, lN_xorc]
          rw [show enc (a :: st) ^^^ 1 = enc ((!a) :: st) by
            rw [enc_push, enc_push]
            cases a
            · have := Nat.xor_one_of_even (n := 2 * enc st) (by omega)
              simp at this ⊢; omega
            · have := Nat.xor_one_of_odd (n := 1 + 2 * enc st) (by omega)
              simp at this ⊢; omega]
          exact hp
      · cases h5
    | 2, _ =>
      rw [show tkX (2, f, s, m) = -2 from rfl, if_pos (by decide), if_neg (by decide), if_pos rfl]
      sorry
    | 3, _ =>
      rw [show tkX (3, f, s, m) = -3 from rfl, if_pos (by decide), if_neg (by decide), if_neg (by decide)]
      sorry

/-! what a CLAUSE asks: both sides answer alike -/
theorem x_test {L : List Nat} {x : gMem} {fx : Nat → Nat} (hf : ∀ k, k < 6 → gI x 17 k = nI (fx k)) (hb : ∀ k, k < 6 → fx k < 2 ^ 31) {f s n : Nat} (h1 : f < 6) (h2 : s < 3) (h3 : n < 100) :
    f_X3_testHolds L x (nI (300 * f + 100 * s + n)) = some (if tst (fx f) s n then 1 else 0) := by
  have hfb := hb f h1
  have e1 : nI (300 * f + 100 * s + n) / (300 : Int32) = nI f := by
    rw [show (300 : Int32) = nI 300 from rfl, pk_div (by omega) (by omega) (by omega)]; congr 1; omega
  have e2 : nI (300 * f + 100 * s + n) - nI (300 * f + 100 * s + n) / (100 : Int32) * (100 : Int32) = nI n := by
    rw [show (100 : Int32) = nI 100 from rfl, rem_nI (by omega) (by omega) (by omega)]; congr 1; omega
  have e3 : nI (300 * f + 100 * s + n) / (100 : Int32) = nI (3 * f + s) := by
    rw [show (100 : Int32) = nI 100 from rfl, pk_div (by omega) (by omega) (by omega)]; congr 1; omega
  have e4 : nI (3 * f + s) - nI (3 * f + s) / (3 : Int32) * (3 : Int32) = nI s := by
    rw [show (3 : Int32) = nI 3 from rfl, rem_nI (by omega) (by omega) (by omega)]; congr 1; omega
  unfold f_X3_testHolds
  simp only [lt1]
  rw [e1, e2, e3, e4]
  rw [if_neg (nI_pos (by omega)), if_pos (show nI f < 6 from nI_lt (b := 6) (by omega) (by omega)), if_pos (okN h1 (by omega)), ixN (by omega), hf f h1]
  rcases (show s = 0 ∨ s = 1 ∨ s = 2 by omega) with rfl | rfl | rfl
  · rw [if_pos (show nI 0 = 0 from rfl)]
    by_cases hc : n ≤ fx f
    · rw [if_pos ((nI_leI (by omega) hfb).mpr hc)]
      simp [tst]; omega
    · rw [if_neg (fun z => hc ((nI_leI (by omega) hfb).mp z))]
      simp [tst]; omega
  · rw [if_neg (by decide), if_pos (show nI 1 = 1 from rfl)]
    by_cases hc : fx f = n
    · rw [if_pos (by rw [hc])]; simp [tst, hc]
    · rw [if_neg (fun z => hc (nI_inj hfb (by omega) z))]; simp [tst, hc]
  · rw [if_neg (by decide), if_neg (by decide)]
    by_cases hc : fx f ≤ n
    · rw [if_pos ((nI_leI hfb (by omega)).mpr hc)]
      simp [tst]; omega
    · rw [if_neg (fun z => hc ((nI_leI hfb (by omega)).mp z))]
      simp [tst]; omega
theorem enc_push (b : Bool) (st : List Bool) : enc (b :: st) = (if b then 1 else 0) + 2 * enc st := rfl
theorem lN_shl2 (a : Nat) : lN a <<< (lN 1 &&& 63) = lN (2 * a) := by
  rw [show (lN 1 &&& 63 : Int64) = (1 : Int32).toInt64 &&& 63 by decide]; exact lN_shl1 a
theorem lN_shr2 {a : Nat} (h : a < 2 ^ 62) : lN a >>> (lN 1 &&& 63) = lN (a / 2) := by
  rw [show (lN 1 &&& 63 : Int64) = (1 : Int32).toInt64 &&& 63 by decide]; exact lN_shr1 h
theorem i64_1 : (nI 1).toInt64 = lN 1 := by decide
theorem i64_0 : (nI 0).toInt64 = lN 0 := by decide
theorem i64_m1 : (-nI 1).toInt64 = (-1 : Int64) := by decide
theorem i64_m2 : (-nI 2).toInt64 = (-2 : Int64) := by decide
theorem lN_m1 (a : Nat) : lN a &&& (-1 : Int64) = lN a := by
  apply Int64.toBitVec_inj.1
  show BitVec.ofNat 64 a &&& (-1 : Int64).toBitVec = BitVec.ofNat 64 a
  rw [show (-1 : Int64).toBitVec = BitVec.allOnes 64 by decide]
  exact BitVec.and_allOnes
theorem enc_T (st : List Bool) : 2 * enc st ||| 1 = enc (true :: st) := by
  have := Nat.two_pow_add_eq_or_of_lt (i := 1) (b := 1) (by decide) (enc st)
  rw [enc_push]; simp at this ⊢; omega
theorem enc_F (st : List Bool) : 2 * enc st ||| 0 = enc (false :: st) := by
  rw [enc_push]; simp
theorem x1e (k : Nat) : 2 * k ^^^ 1 = 2 * k + 1 := by
  have h1 := Nat.xor_div_two (a := 2 * k) (b := 1)
  have h2 := (Nat.xor_mod_two_eq_one (a := 2 * k) (b := 1)).mpr (fun h => by have := h.mpr rfl; omega)
  rw [show 1 / 2 = 0 from rfl, Nat.xor_zero] at h1
  generalize 2 * k ^^^ 1 = z at *
  omega
theorem x1o (k : Nat) : 1 + 2 * k ^^^ 1 = 2 * k := by
  have h1 := Nat.xor_div_two (a := 1 + 2 * k) (b := 1)
  have h2 : ¬ ((1 + 2 * k ^^^ 1) % 2 = 1) := fun h => (Nat.xor_mod_two_eq_one.mp h) ⟨fun _ => rfl, fun _ => by omega⟩
  rw [show 1 / 2 = 0 from rfl, Nat.xor_zero] at h1
  generalize 1 + 2 * k ^^^ 1 = z at *
  omega
theorem enc_N (a : Bool) (st : List Bool) : enc (a :: st) ^^^ 1 = enc ((!a) :: st) := by
  rw [enc_push, enc_push]
  cases a
  · simp only [Bool.false_eq_true, if_false, Bool.not_false, if_true]
    rw [Nat.zero_add, x1e, Nat.add_comm]
  · simp only [Bool.false_eq_true, if_false, Bool.not_true, if_true]
    rw [x1o, Nat.zero_add]
theorem enc_h (a : Bool) (st : List Bool) : enc (a :: st) / 2 = enc st := by
  rw [enc_push]; cases a <;> simp <;> omega
theorem enc_and1 (a : Bool) (st : List Bool) : lN (enc (a :: st)) &&& (1 : Int64) = lN (if a then 1 else 0) := by
  rw [show (1 : Int64) = lN 1 by decide, lN_andc, Nat.and_one_is_mod, enc_push]
  congr 1
  cases a <;> simp <;> omega
theorem cmp1 (a : Bool) : (lg_cmp (lN (if a then 1 else 0)) (1 : Int64)).toInt = if a then ((0 : Nat) : Int) else -1 := by
  cases a <;> decide
theorem b01 (b : Bool) : (if b then (1 : Int32) else 0) = nI (if b then 1 else 0) := by cases b <;> rfl
theorem tkX0 {f s n : Nat} : tkX (0, f, s, n) = nI (300 * f + 100 * s + n) := rfl
set_option maxHeartbeats 8000000 in
theorem x_holds_loop {L : List Nat} {x : gMem} {fx : Nat → Nat} (hf : ∀ k, k < 6 → gI x 17 k = nI (fx k)) (hb : ∀ k, k < 6 → fx k < 2 ^ 31) {g e : Nat} (he : e ≤ 100) (j2 : Int64 → Option Int32) :
    ∀ (p : List tok) (i : Nat) (st : List Bool) (fuel k : Nat), p.length < fuel → i + p.length = e → (∀ t ∈ p, tkok t) → (∀ j (hj : j < p.length), gI x (g + 4) (i + j) = tkX p[j]) → hgt 20 p st.length = some k → st.length ≤ 20 →
      lq2 (s_X3_holds_10 (nI e) j2 x g L) fuel (lN (enc st)) (nI i) = j2 (lN (enc (ev fx p st))) := by
  intro p
  induction p with
  | nil =>
    intro i st fuel k h1 h2 h3 h4 h5 h6
    obtain ⟨n, rfl⟩ : ∃ n, fuel = n + 1 := ⟨fuel - 1, by simp at h1; omega⟩
    have h2 : i = e := by simpa using h2
    rw [lq2_u]
    unfold s_X3_holds_10
    simp (disch := omega) only [lt1, jn, bd_s, bd2_s, oc_s, oc_n, li0, li1, li2, li3, li4, li5, li6, li7, li8, li9, li10, li11, li12, li13, li14, li16, li20, li21, li22, li24, li30, li31, li33, li38, li39, li40, li41, li45, li48, li50, li51, li57, li58, li59, li60, li61, li62, li64, li70, li71, li72, li99, li100, li101, li104, li107, li109, li116, li120, li121, li124, li127, li128, li144, li255, li300, li360, li372, li396, li600, li999, li1000, li9960, li9990, li1000000, nI_1, nI_add, pk_sub, pk_mul, pk_div, rem_nI, i_lt, i_le, i_eq, okI, ix, isB, nI_clamp, nI_toInt, tneg, gI_sI, gR_sI, gJ_sI, gI_sR, gR_sR, gJ_sR, gI_sJ, gR_sJ, gJ_sJ, true_and, and_true, false_and, and_false, if_true, if_false, if_pos, if_neg]
    rfl
  | cons t r ih =>
    intro i st fuel k h1 h2 h3 h4 h5 h6
    obtain ⟨n, rfl⟩ : ∃ n, fuel = n + 1 := ⟨fuel - 1, by simp at h1; omega⟩
    have hi : i < e := by simp at h2; omega
    have hc := h4 0 (by simp)
    simp only [Nat.add_zero, List.getElem_cons_zero] at hc
    have ht := h3 t List.mem_cons_self
    have hE : enc st < 2 ^ 20 := Nat.lt_of_lt_of_le (enc_lt st) (Nat.pow_le_pow_right (by decide) h6)
    have next : ∀ st' : List Bool, st' = ev1 fx t st → hgt 20 r st'.length = some k → st'.length ≤ 20 → lq2 (s_X3_holds_10 (nI e) j2 x g L) n (lN (enc st')) (nI (i + 1)) = j2 (lN (enc (ev fx (t :: r) st))) := by
      intro st' e1 e2 e3
      rw [ih (i + 1) st' n k (by simp at h1; omega) (by simp at h2; omega) (fun t ht => h3 t (List.mem_cons_of_mem _ ht)) (fun j hj => by
        have := h4 (j + 1) (by simp; omega)
        rw [show i + 1 + j = i + (j + 1) by omega, this, List.getElem_cons_succ]) e2 e3, ev, e1]
    rw [lq2_u]
    generalize lq2 (s_X3_holds_10 (nI e) j2 x g L) n = F at next ⊢
    unfold s_X3_holds_10
    obtain ⟨z, f, s, q⟩ := t
    obtain ⟨hz, hf6, hs3, hm⟩ := ht
    simp only at hz hf6 hs3 hm
    rcases (show z = 0 ∨ z = 1 ∨ z = 2 ∨ z = 3 by omega) with rfl | rfl | rfl | rfl
    · rw [tkX0] at hc
      simp only [hgt] at h5
      split at h5
      · rename_i hB
        have hp := next (tst (fx f) s q :: st) rfl (by simpa using h5) (by simp; omega)
        have hx := x_test (L := L) hf hb hf6 hs3 hm
        by_cases hq : tst (fx f) s q = true
        · rw [hq] at hp hx
          simp (disch := omega) only [lt1, jn, bd_s, bd2_s, oc_s, oc_n, li0, li1, li2, li3, li4, li5, li6, li7, li8, li9, li10, li11, li12, li13, li14, li16, li20, li21, li22, li24, li30, li31, li33, li38, li39, li40, li41, li45, li48, li50, li51, li57, li58, li59, li60, li61, li62, li64, li70, li71, li72, li99, li100, li101, li104, li107, li109, li116, li120, li121, li124, li127, li128, li144, li255, li300, li360, li372, li396, li600, li999, li1000, li9960, li9990, li1000000, nI_1, nI_add, pk_sub, pk_mul, pk_div, rem_nI, i_lt, i_le, i_eq, okI, ix, isB, nI_clamp, nI_toInt, tneg, gI_sI, gR_sI, gJ_sI, gI_sR, gR_sR, gJ_sR, gI_sJ, gR_sJ, gJ_sJ, true_and, and_true, false_and, and_false, if_true, if_false, if_pos, if_neg, hc, hx, i64_1, lN_shl2, lN_orc, enc_T]
          exact hp
        · have hq : tst (fx f) s q = false := by simpa using hq
          rw [hq] at hp hx
          simp only [Bool.false_eq_true, if_false] at hx
          simp (disch := omega) only [lt1, jn, bd_s, bd2_s, oc_s, oc_n, li0, li1, li2, li3, li4, li5, li6, li7, li8, li9, li10, li11, li12, li13, li14, li16, li20, li21, li22, li24, li30, li31, li33, li38, li39, li40, li41, li45, li48, li50, li51, li57, li58, li59, li60, li61, li62, li64, li70, li71, li72, li99, li100, li101, li104, li107, li109, li116, li120, li121, li124, li127, li128, li144, li255, li300, li360, li372, li396, li600, li999, li1000, li9960, li9990, li1000000, nI_1, nI_add, pk_sub, pk_mul, pk_div, rem_nI, i_lt, i_le, i_eq, okI, ix, isB, nI_clamp, nI_toInt, tneg, gI_sI, gR_sI, gJ_sI, gI_sR, gR_sR, gJ_sR, gI_sJ, gR_sJ, gJ_sJ, true_and, and_true, false_and, and_false, if_true, if_false, if_pos, if_neg, hc, hx, i64_1, i64_0, lN_shl2, lN_orc, enc_F]
          exact hp
      · cases h5
    · have hc : gI x (g + 4) i = -nI 1 := hc
      simp only [hgt] at h5
      split at h5
      · cases st with
        | nil => rename_i h0; simp at h0
        | cons a st =>
          have hp := next ((!a) :: st) rfl (by simpa using h5) (by simpa using h6)
          simp (disch := omega) only [lt1, jn, bd_s, bd2_s, oc_s, oc_n, li0, li1, li2, li3, li4, li5, li6, li7, li8, li9, li10, li11, li12, li13, li14, li16, li20, li21, li22, li24, li30, li31, li33, li38, li39, li40, li41, li45, li48, li50, li51, li57, li58, li59, li60, li61, li62, li64, li70, li71, li72, li99, li100, li101, li104, li107, li109, li116, li120, li121, li124, li127, li128, li144, li255, li300, li360, li372, li396, li600, li999, li1000, li9960, li9990, li1000000, nI_1, nI_add, pk_sub, pk_mul, pk_div, rem_nI, i_lt, i_le, i_eq, okI, ix, isB, nI_clamp, nI_toInt, tneg, gI_sI, gR_sI, gJ_sI, gI_sR, gR_sR, gJ_sR, gI_sJ, gR_sJ, gJ_sJ, true_and, and_true, false_and, and_false, if_true, if_false, if_pos, if_neg, hc]
          rw [show (1 : Int64) = lN 1 by decide, lN_xorc, enc_N]
          exact hp
      · cases h5
    · have hc : gI x (g + 4) i = -nI 2 := hc
      simp only [hgt] at h5
      split at h5
      · cases st with
        | nil => rename_i h0; simp at h0
        | cons a st =>
          cases st with
          | nil => rename_i h0; simp at h0
          | cons b st =>
            have hp := next ((b && a) :: st) rfl (by simpa using h5) (by simp at h6 ⊢; omega)
            cases a with
            | true =>
              have z1 := cmp1 true
              simp only [if_true] at z1
              rw [Bool.and_true] at hp
              simp (disch := omega) only [lt1, jn, bd_s, bd2_s, oc_s, oc_n, li0, li1, li2, li3, li4, li5, li6, li7, li8, li9, li10, li11, li12, li13, li14, li16, li20, li21, li22, li24, li30, li31, li33, li38, li39, li40, li41, li45, li48, li50, li51, li57, li58, li59, li60, li61, li62, li64, li70, li71, li72, li99, li100, li101, li104, li107, li109, li116, li120, li121, li124, li127, li128, li144, li255, li300, li360, li372, li396, li600, li999, li1000, li9960, li9990, li1000000, nI_1, nI_add, pk_sub, pk_mul, pk_div, rem_nI, i_lt, i_le, i_eq, okI, ix, isB, nI_clamp, nI_toInt, tneg, gI_sI, gR_sI, gJ_sI, gI_sR, gR_sR, gJ_sR, gI_sJ, gR_sJ, gJ_sJ, true_and, and_true, false_and, and_false, if_true, if_false, if_pos, if_neg, hc, enc_and1, z1, i64_1, i64_m1, lN_shr2, enc_h, lN_m1]
              exact hp
            | false =>
              have z1 := cmp1 false
              simp only [Bool.false_eq_true, if_false] at z1
              rw [Bool.and_false] at hp
              have hE2 : enc st < 2 ^ 62 := Nat.lt_of_lt_of_le (enc_lt st) (Nat.pow_le_pow_right (by decide) (by simp at h6; omega))
              have hm2 : lN (enc (b :: st)) &&& (-2 : Int64) = lN (enc (false :: st)) := by
                rw [enc_push, enc_push, Nat.add_comm, enc_mask _ hE2 _ (by cases b <;> decide)]
                simp
              simp (disch := omega) only [lt1, jn, bd_s, bd2_s, oc_s, oc_n, li0, li1, li2, li3, li4, li5, li6, li7, li8, li9, li10, li11, li12, li13, li14, li16, li20, li21, li22, li24, li30, li31, li33, li38, li39, li40, li41, li45, li48, li50, li51, li57, li58, li59, li60, li61, li62, li64, li70, li71, li72, li99, li100, li101, li104, li107, li109, li116, li120, li121, li124, li127, li128, li144, li255, li300, li360, li372, li396, li600, li999, li1000, li9960, li9990, li1000000, nI_1, nI_add, pk_sub, pk_mul, pk_div, rem_nI, i_lt, i_le, i_eq, okI, ix, isB, nI_clamp, nI_toInt, tneg, gI_sI, gR_sI, gJ_sI, gI_sR, gR_sR, gJ_sR, gI_sJ, gR_sJ, gJ_sJ, true_and, and_true, false_and, and_false, if_true, if_false, if_pos, if_neg, hc, enc_and1, Bool.false_eq_true, z1, i64_1, i64_m2, lN_shr2, enc_h, hm2]
              exact hp
      · cases h5
    · have hc : gI x (g + 4) i = -nI 3 := hc
      simp only [hgt] at h5
      split at h5
      · cases st with
        | nil => rename_i h0; simp at h0
        | cons a st =>
          cases st with
          | nil => rename_i h0; simp at h0
          | cons b st =>
            have hp := next ((b || a) :: st) rfl (by simpa using h5) (by simp at h6 ⊢; omega)
            have ho : lN (enc (b :: st)) ||| lN (if a then 1 else 0) = lN (enc ((b || a) :: st)) := by
              rw [lN_orc]
              congr 1
              cases a
              · simp
              · cases b
                · have := enc_T st
                  rw [enc_push] at *
                  simp at this ⊢
                  exact this
                · show enc (true :: st) ||| 1 = enc (true :: st)
                  rw [← enc_T, Nat.or_assoc, Nat.or_self]
            simp (disch := omega) only [lt1, jn, bd_s, bd2_s, oc_s, oc_n, li0, li1, li2, li3, li4, li5, li6, li7, li8, li9, li10, li11, li12, li13, li14, li16, li20, li21, li22, li24, li30, li31, li33, li38, li39, li40, li41, li45, li48, li50, li51, li57, li58, li59, li60, li61, li62, li64, li70, li71, li72, li99, li100, li101, li104, li107, li109, li116, li120, li121, li124, li127, li128, li144, li255, li300, li360, li372, li396, li600, li999, li1000, li9960, li9990, li1000000, nI_1, nI_add, pk_sub, pk_mul, pk_div, rem_nI, i_lt, i_le, i_eq, okI, ix, isB, nI_clamp, nI_toInt, tneg, gI_sI, gR_sI, gJ_sI, gI_sR, gR_sR, gJ_sR, gI_sJ, gR_sJ, gJ_sJ, true_and, and_true, false_and, and_false, if_true, if_false, if_pos, if_neg, hc, enc_and1, i64_1, lN_shr2, enc_h, ho]
            exact hp
      · cases h5
/-- what a program answers -/
def evb (fx : Nat → Nat) (p : List tok) : Bool := (ev fx p []).headD false
theorem ev_one {fx : Nat → Nat} {p : List tok} (h : hgt 20 p 0 = some 1) : ev fx p [] = [evb fx p] := by
  have := ev_len fx 20 p [] 1 h
  unfold evb
  match hq : ev fx p [], this with
  | [b], _ => rfl
theorem x_holds {L : List Nat} {x : gMem} {fx : Nat → Nat} (hf : ∀ k, k < 6 → gI x 17 k = nI (fx k)) (hb : ∀ k, k < 6 → fx k < 2 ^ 31) {g i : Nat} {p : List tok} (he : i + p.length ≤ 100) (h3 : ∀ t ∈ p, tkok t) (h4 : ∀ j (hj : j < p.length), gI x (g + 4) (i + j) = tkX p[j]) (h5 : hgt 20 p 0 = some 1) : f_X3_holds L x g (nI i) (nI (i + p.length)) = some (nI (if evb fx p then 1 else 0)) := by
  unfold f_X3_holds
  simp only [lt1, jn]
  have e0 : (if (0 : Int32) < nI i then nI i else (0 : Int32)) = nI i := by
    have := sub0 (s := i) (k := 0) (by omega) (by omega)
    have z : nI i - nI 0 = nI i := by rw [pk_sub (by omega)]; rfl
    rw [z] at this
    exact this
  rw [e0]
  have := x_holds_loop (L := L) hf hb he (fun (y19 : Int64) => if (lg_cmp (y19 &&& (1 : Int64)) (1 : Int64)) = 0 then (some (1 : Int32)) else some (0 : Int32)) p i [] 1000 1 (by omega) rfl h3 h4 h5 (by simp)
  rw [show lN (enc []) = (0 : Int64) by decide] at this
  rw [this, ev_one h5, enc_and1]
  cases evb fx p <;> rfl
def PL (m : gMem) : List Bool → Prop
  | [] => True
  | a :: r => gI m 15 r.length = nI (if a then 1 else 0) ∧ PL m r
theorem PL.fr {m m' : gMem} : ∀ {st : List Bool}, PL m st → (∀ k, k < st.length → gI m' 15 k = gI m 15 k) → PL m' st
  | [], _, _ => trivial
  | a :: r, h, q => ⟨(q _ (by simp)).trans h.1, PL.fr h.2 (fun k hk => q k (by simp; omega))⟩
theorem add_neg {a b : Nat} (h : b ≤ a) : nI a + -nI b = nI (a - b) := by
  rw [← Int32.sub_eq_add_neg, pk_sub h]
theorem nr01 (b : Bool) : vp_nar .boolean (nI (if b then 1 else 0)) = nI (if b then 1 else 0) := by cases b <;> decide
theorem nrn0 : vp_nar .boolean (nI 0) = nI 0 := by decide
theorem nrn1 : vp_nar .boolean (nI 1) = nI 1 := by decide
set_option maxHeartbeats 8000000 in
theorem m_holds_loop {m0 : gMem} {fx : Nat → Nat} {c e : Nat} {p1 p2 p3 : Int32} (hc60 : c < 60) (he : e ≤ 600) (hto : gI m0 11 c = nI e) (hF : ∀ mm : gMem, (∀ o k, o ≠ 15 → gI mm o k = gI m0 o k) → ∀ f, f < 6 → f_X12_factOf mm (nI f) p1 p2 p3 = some (nI (fx f))) (hb : ∀ k, k < 6 → fx k < 2 ^ 31) :
    ∀ (p : List tok) (i : Nat) (st : List Bool) (fuel : Nat) (mm : gMem), p.length < fuel → i + p.length = e → (∀ t ∈ p, tkok t) → (∀ j (hj : j < p.length), gI m0 12 (i + j) = tkM p[j]) → hgt 20 p st.length = some 1 → st.length ≤ 20 → PL mm st → (∀ o k, o ≠ 15 → gI mm o k = gI m0 o k) →
      ∃ m', lq3 (s_X12_holds_11 (nI c) p1 p2 p3) fuel (nI st.length) (nI i) mm = some (nI (if (ev fx p st).headD false then 1 else 0), m') ∧ (∀ o k, o ≠ 15 → gI m' o k = gI m0 o k) ∧ (∀ o k, gJ m' o k = gJ mm o k) ∧ ∀ o k, gR m' o k = gR mm o k := by
  intro p
  induction p with
  | nil =>
    intro i st fuel mm h1 h2 h3 h4 h5 h6 h7 h8
    obtain ⟨n, rfl⟩ : ∃ n, fuel = n + 1 := ⟨fuel - 1, by simp at h1; omega⟩
    have h2 : i = e := by simpa using h2
    have hl : st.length = 1 := by simpa [hgt] using h5
    match st, hl, h7 with
    | [b], _, h7 =>
      refine ⟨mm, ?_, h8, fun _ _ => rfl, fun _ _ => rfl⟩
      rw [lq3_u]
      unfold s_X12_holds_11
      have hp : gI mm 15 0 = nI (if b then 1 else 0) := h7.1
      have hB : isB (nI (if b then 1 else 0)) := by cases b <;> decide
      have hto' := (h8 11 c (by omega)).trans hto
      rw [if_pos (okN hc60 (by decide)), ixN (by omega), hto', if_pos (nI_le (by omega) (by omega)), if_pos (show okI 0 100 by decide), show ix (0 : Int32) = 0 from rfl, hp, if_pos hB]
      rfl
  | cons t r ih =>
    intro i st fuel mm h1 h2 h3 h4 h5 h6 h7 h8
    obtain ⟨n, rfl⟩ : ∃ n, fuel = n + 1 := ⟨fuel - 1, by simp at h1; omega⟩
    have hi : i < e := by simp at h2; omega
    have hc := h4 0 (by simp)
    simp only [Nat.add_zero, List.getElem_cons_zero] at hc
    have hc := (h8 12 i (by omega)).trans hc
    have hto' := (h8 11 c (by omega)).trans hto
    have ht := h3 t List.mem_cons_self
    have next : ∀ (st' : List Bool) (m1 : gMem), st' = ev1 fx t st → hgt 20 r st'.length = some 1 → st'.length ≤ 20 → PL m1 st' → (∀ o k, o ≠ 15 → gI m1 o k = gI mm o k) → (∀ o k, gJ m1 o k = gJ mm o k) → (∀ o k, gR m1 o k = gR mm o k) → ∃ m', lq3 (s_X12_holds_11 (nI c) p1 p2 p3) n (nI st'.length) (nI (i + 1)) m1 = some (nI (if (ev fx (t :: r) st).headD false then 1 else 0), m') ∧ (∀ o k, o ≠ 15 → gI m' o k = gI m0 o k) ∧ (∀ o k, gJ m' o k = gJ mm o k) ∧ ∀ o k, gR m' o k = gR mm o k := by
      intro st' m1 e1 e2 e3 e4 e5 e6 e7
      obtain ⟨m', a1, a2, a3, a4⟩ := ih (i + 1) st' n m1 (by simp at h1; omega) (by simp at h2; omega) (fun t ht => h3 t (List.mem_cons_of_mem _ ht)) (fun j hj => by
        have := h4 (j + 1) (by simp; omega)
        rw [show i + 1 + j = i + (j + 1) by omega, this, List.getElem_cons_succ]) e2 e3 e4 (fun o k q => (e5 o k q).trans (h8 o k q))
      refine ⟨m', ?_, a2, fun o k => (a3 o k).trans (e6 o k), fun o k => (a4 o k).trans (e7 o k)⟩
      rw [a1, ev, e1]
    rw [lq3_u]
    generalize lq3 (s_X12_holds_11 (nI c) p1 p2 p3) n = F at next ⊢
    unfold s_X12_holds_11
    obtain ⟨z, f, s, q⟩ := t
    obtain ⟨hz, hf6, hs3, hm⟩ := ht
    simp only at hz hf6 hs3 hm
    rcases (show z = 0 ∨ z = 1 ∨ z = 2 ∨ z = 3 by omega) with rfl | rfl | rfl | rfl
    · have hc : gI mm 12 i = nI (1000 * f + 100 * s + q) := hc
      simp only [hgt] at h5
      split at h5
      · rename_i hB
        have hx := hF mm h8 f hf6
        have hfb := hb f hf6
        have d1 : (1000 * f + 100 * s + q) / 1000 = f := by omega
        have d2 : (1000 * f + 100 * s + q) / 100 % 10 = s := by omega
        have d3 : (1000 * f + 100 * s + q) % 100 = q := by omega
        obtain ⟨m', a1, a2, a3, a4⟩ := next (tst (fx f) s q :: st) (gsI mm 15 st.length (nI (if tst (fx f) s q then 1 else 0))) rfl (by simpa using h5) (by simp; omega) ⟨gI_y ⟨rfl, rfl⟩, h7.fr (fun k hk => gI_n (by omega))⟩ (fun o k q => gI_n (by omega)) (fun _ _ => rfl) (fun _ _ => rfl)
        refine ⟨m', ?_, a2, a3, a4⟩
        rw [← a1]
        have hs20 := hB
        rcases (show s = 0 ∨ s = 1 ∨ s = 2 by omega) with rfl | rfl | rfl
        · by_cases hq : fx f < q
          · have ht : tst (fx f) 0 q = true := by simp [tst, hq]
            simp (disch := omega) only [lt1, jn, bd_s, bd2_s, oc_s, oc_n, li0, li1, li2, li3, li4, li5, li6, li7, li8, li9, li10, li11, li12, li13, li14, li16, li20, li21, li22, li24, li30, li31, li33, li38, li39, li40, li41, li45, li48, li50, li51, li57, li58, li59, li60, li61, li62, li64, li70, li71, li72, li99, li100, li101, li104, li107, li109, li116, li120, li121, li124, li127, li128, li144, li255, li300, li360, li372, li396, li600, li999, li1000, li9960, li9990, li1000000, nI_1, nI_add, pk_sub, pk_mul, pk_div, rem_nI, i_lt, i_le, i_eq, okI, ix, isB, nI_clamp, nI_toInt, tneg, gI_sI, gR_sI, gJ_sI, gI_sR, gR_sR, gJ_sR, gI_sJ, gR_sJ, gJ_sJ, true_and, and_true, false_and, and_false, if_true, if_false, if_pos, if_neg, hto', hc, d1, d2, d3, hx, ht, nrn0, nrn1, List.length_cons]
          · have ht : tst (fx f) 0 q = false := by simp [tst, hq]
            simp (disch := omega) only [lt1, jn, bd_s, bd2_s, oc_s, oc_n, li0, li1, li2, li3, li4, li5, li6, li7, li8, li9, li10, li11, li12, li13, li14, li16, li20, li21, li22, li24, li30, li31, li33, li38, li39, li40, li41, li45, li48, li50, li51, li57, li58, li59, li60, li61, li62, li64, li70, li71, li72, li99, li100, li101, li104, li107, li109, li116, li120, li121, li124, li127, li128, li144, li255, li300, li360, li372, li396, li600, li999, li1000, li9960, li9990, li1000000, nI_1, nI_add, pk_sub, pk_mul, pk_div, rem_nI, i_lt, i_le, i_eq, okI, ix, isB, nI_clamp, nI_toInt, tneg, gI_sI, gR_sI, gJ_sI, gI_sR, gR_sR, gJ_sR, gI_sJ, gR_sJ, gJ_sJ, true_and, and_true, false_and, and_false, if_true, if_false, if_pos, if_neg, hto', hc, d1, d2, d3, hx, ht, nrn0, nrn1, List.length_cons, Bool.false_eq_true]
        · by_cases hq : fx f = q
          · have ht : tst (fx f) 1 q = true := by simp [tst, hq]
            simp (disch := omega) only [lt1, jn, bd_s, bd2_s, oc_s, oc_n, li0, li1, li2, li3, li4, li5, li6, li7, li8, li9, li10, li11, li12, li13, li14, li16, li20, li21, li22, li24, li30, li31, li33, li38, li39, li40, li41, li45, li48, li50, li51, li57, li58, li59, li60, li61, li62, li64, li70, li71, li72, li99, li100, li101, li104, li107, li109, li116, li120, li121, li124, li127, li128, li144, li255, li300, li360, li372, li396, li600, li999, li1000, li9960, li9990, li1000000, nI_1, nI_add, pk_sub, pk_mul, pk_div, rem_nI, i_lt, i_le, i_eq, okI, ix, isB, nI_clamp, nI_toInt, tneg, gI_sI, gR_sI, gJ_sI, gI_sR, gR_sR, gJ_sR, gI_sJ, gR_sJ, gJ_sJ, true_and, and_true, false_and, and_false, if_true, if_false, if_pos, if_neg, hto', hc, d1, d2, d3, hx, ht, nrn0, nrn1, List.length_cons]
          · have ht : tst (fx f) 1 q = false := by simp [tst, hq]
            simp (disch := omega) only [lt1, jn, bd_s, bd2_s, oc_s, oc_n, li0, li1, li2, li3, li4, li5, li6, li7, li8, li9, li10, li11, li12, li13, li14, li16, li20, li21, li22, li24, li30, li31, li33, li38, li39, li40, li41, li45, li48, li50, li51, li57, li58, li59, li60, li61, li62, li64, li70, li71, li72, li99, li100, li101, li104, li107, li109, li116, li120, li121, li124, li127, li128, li144, li255, li300, li360, li372, li396, li600, li999, li1000, li9960, li9990, li1000000, nI_1, nI_add, pk_sub, pk_mul, pk_div, rem_nI, i_lt, i_le, i_eq, okI, ix, isB, nI_clamp, nI_toInt, tneg, gI_sI, gR_sI, gJ_sI, gI_sR, gR_sR, gJ_sR, gI_sJ, gR_sJ, gJ_sJ, true_and, and_true, false_and, and_false, if_true, if_false, if_pos, if_neg, hto', hc, d1, d2, d3, hx, ht, nrn0, nrn1, List.length_cons, Bool.false_eq_true]
        · by_cases hq : q < fx f
          · have ht : tst (fx f) 2 q = true := by simp [tst, hq]
            simp (disch := omega) only [lt1, jn, bd_s, bd2_s, oc_s, oc_n, li0, li1, li2, li3, li4, li5, li6, li7, li8, li9, li10, li11, li12, li13, li14, li16, li20, li21, li22, li24, li30, li31, li33, li38, li39, li40, li41, li45, li48, li50, li51, li57, li58, li59, li60, li61, li62, li64, li70, li71, li72, li99, li100, li101, li104, li107, li109, li116, li120, li121, li124, li127, li128, li144, li255, li300, li360, li372, li396, li600, li999, li1000, li9960, li9990, li1000000, nI_1, nI_add, pk_sub, pk_mul, pk_div, rem_nI, i_lt, i_le, i_eq, okI, ix, isB, nI_clamp, nI_toInt, tneg, gI_sI, gR_sI, gJ_sI, gI_sR, gR_sR, gJ_sR, gI_sJ, gR_sJ, gJ_sJ, true_and, and_true, false_and, and_false, if_true, if_false, if_pos, if_neg, hto', hc, d1, d2, d3, hx, ht, nrn0, nrn1, List.length_cons]
          · have ht : tst (fx f) 2 q = false := by simp [tst, hq]
            simp (disch := omega) only [lt1, jn, bd_s, bd2_s, oc_s, oc_n, li0, li1, li2, li3, li4, li5, li6, li7, li8, li9, li10, li11, li12, li13, li14, li16, li20, li21, li22, li24, li30, li31, li33, li38, li39, li40, li41, li45, li48, li50, li51, li57, li58, li59, li60, li61, li62, li64, li70, li71, li72, li99, li100, li101, li104, li107, li109, li116, li120, li121, li124, li127, li128, li144, li255, li300, li360, li372, li396, li600, li999, li1000, li9960, li9990, li1000000, nI_1, nI_add, pk_sub, pk_mul, pk_div, rem_nI, i_lt, i_le, i_eq, okI, ix, isB, nI_clamp, nI_toInt, tneg, gI_sI, gR_sI, gJ_sI, gI_sR, gR_sR, gJ_sR, gI_sJ, gR_sJ, gJ_sJ, true_and, and_true, false_and, and_false, if_true, if_false, if_pos, if_neg, hto', hc, d1, d2, d3, hx, ht, nrn0, nrn1, List.length_cons, Bool.false_eq_true]
      · cases h5
    · have hc : gI mm 12 i = -nI 33 := hc
      simp only [hgt] at h5
      split at h5
      · cases st with
        | nil => rename_i h0; simp at h0
        | cons a st =>
          have hl : st.length < 20 := by simp at h6; omega
          have hp : gI mm 15 st.length = nI (if a then 1 else 0) := h7.1
          obtain ⟨m', a1, a2, a3, a4⟩ := next ((!a) :: st) (gsI mm 15 st.length (nI (if !a then 1 else 0))) rfl (by simpa using h5) (by simpa using h6) ⟨gI_y ⟨rfl, rfl⟩, h7.2.fr (fun k hk => gI_n (by omega))⟩ (fun o k q => gI_n (by omega)) (fun _ _ => rfl) (fun _ _ => rfl)
          refine ⟨m', ?_, a2, a3, a4⟩
          rw [← a1]
          have l1 : st.length + 1 - 1 = st.length := by omega
          cases a <;> simp only [Bool.false_eq_true, if_true, if_false, Bool.not_true, Bool.not_false] at hp ⊢ <;> simp (disch := omega) only [lt1, jn, bd_s, bd2_s, oc_s, oc_n, li0, li1, li2, li3, li4, li5, li6, li7, li8, li9, li10, li11, li12, li13, li14, li16, li20, li21, li22, li24, li30, li31, li33, li38, li39, li40, li41, li45, li48, li50, li51, li57, li58, li59, li60, li61, li62, li64, li70, li71, li72, li99, li100, li101, li104, li107, li109, li116, li120, li121, li124, li127, li128, li144, li255, li300, li360, li372, li396, li600, li999, li1000, li9960, li9990, li1000000, nI_1, nI_add, pk_sub, pk_mul, pk_div, rem_nI, i_lt, i_le, i_eq, okI, ix, isB, nI_clamp, nI_toInt, tneg, gI_sI, gR_sI, gJ_sI, gI_sR, gR_sR, gJ_sR, gI_sJ, gR_sJ, gJ_sJ, true_and, and_true, false_and, and_false, if_true, if_false, if_pos, if_neg, hto', hc, List.length_cons, l1, hp, nrn0, nrn1]
      · cases h5
    · have hc : gI mm 12 i = -nI 38 := hc
      simp only [hgt] at h5
      split at h5
      · cases st with
        | nil => rename_i h0; simp at h0
        | cons a st =>
          cases st with
          | nil => rename_i h0; simp at h0
          | cons b st =>
            have hl : st.length < 20 := by simp at h6; omega
            have hp : gI mm 15 (st.length + 1) = nI (if a then 1 else 0) := h7.1
            have hp2 : gI mm 15 st.length = nI (if b then 1 else 0) := h7.2.1
            obtain ⟨m', a1, a2, a3, a4⟩ := next ((b && a) :: st) (gsI mm 15 st.length (nI (if b && a then 1 else 0))) rfl (by simpa using h5) (by simp at h6 ⊢; omega) ⟨gI_y ⟨rfl, rfl⟩, h7.2.2.fr (fun k hk => gI_n (by omega))⟩ (fun o k q => gI_n (by omega)) (fun _ _ => rfl) (fun _ _ => rfl)
            refine ⟨m', ?_, a2, a3, a4⟩
            rw [← a1]
            have l1 : st.length + 1 + 1 - 1 = st.length + 1 := by omega
            have l2 : st.length + 1 - 1 = st.length := by omega
            cases a <;> cases b <;> simp only [Bool.false_eq_true, if_true, if_false, Bool.and_true, Bool.and_false, Bool.and_self] at hp hp2 ⊢ <;> simp (disch := omega) only [lt1, jn, bd_s, bd2_s, oc_s, oc_n, li0, li1, li2, li3, li4, li5, li6, li7, li8, li9, li10, li11, li12, li13, li14, li16, li20, li21, li22, li24, li30, li31, li33, li38, li39, li40, li41, li45, li48, li50, li51, li57, li58, li59, li60, li61, li62, li64, li70, li71, li72, li99, li100, li101, li104, li107, li109, li116, li120, li121, li124, li127, li128, li144, li255, li300, li360, li372, li396, li600, li999, li1000, li9960, li9990, li1000000, nI_1, nI_add, pk_sub, pk_mul, pk_div, rem_nI, i_lt, i_le, i_eq, okI, ix, isB, nI_clamp, nI_toInt, tneg, gI_sI, gR_sI, gJ_sI, gI_sR, gR_sR, gJ_sR, gI_sJ, gR_sJ, gJ_sJ, true_and, and_true, false_and, and_false, if_true, if_false, if_pos, if_neg, hto', hc, List.length_cons, add_neg, l1, l2, hp, hp2, nrn0, nrn1]
      · cases h5
    · have hc : gI mm 12 i = -nI 124 := hc
      simp only [hgt] at h5
      split at h5
      · cases st with
        | nil => rename_i h0; simp at h0
        | cons a st =>
          cases st with
          | nil => rename_i h0; simp at h0
          | cons b st =>
            have hl : st.length < 20 := by simp at h6; omega
            have hp : gI mm 15 (st.length + 1) = nI (if a then 1 else 0) := h7.1
            have hp2 : gI mm 15 st.length = nI (if b then 1 else 0) := h7.2.1
            obtain ⟨m', a1, a2, a3, a4⟩ := next ((b || a) :: st) (gsI mm 15 st.length (nI (if b || a then 1 else 0))) rfl (by simpa using h5) (by simp at h6 ⊢; omega) ⟨gI_y ⟨rfl, rfl⟩, h7.2.2.fr (fun k hk => gI_n (by omega))⟩ (fun o k q => gI_n (by omega)) (fun _ _ => rfl) (fun _ _ => rfl)
            refine ⟨m', ?_, a2, a3, a4⟩
            rw [← a1]
            have l1 : st.length + 1 + 1 - 1 = st.length + 1 := by omega
            have l2 : st.length + 1 - 1 = st.length := by omega
            cases a <;> cases b <;> simp only [Bool.false_eq_true, if_true, if_false, Bool.or_true, Bool.or_false, Bool.or_self] at hp hp2 ⊢ <;> simp (disch := omega) only [lt1, jn, bd_s, bd2_s, oc_s, oc_n, li0, li1, li2, li3, li4, li5, li6, li7, li8, li9, li10, li11, li12, li13, li14, li16, li20, li21, li22, li24, li30, li31, li33, li38, li39, li40, li41, li45, li48, li50, li51, li57, li58, li59, li60, li61, li62, li64, li70, li71, li72, li99, li100, li101, li104, li107, li109, li116, li120, li121, li124, li127, li128, li144, li255, li300, li360, li372, li396, li600, li999, li1000, li9960, li9990, li1000000, nI_1, nI_add, pk_sub, pk_mul, pk_div, rem_nI, i_lt, i_le, i_eq, okI, ix, isB, nI_clamp, nI_toInt, tneg, gI_sI, gR_sI, gJ_sI, gI_sR, gR_sR, gJ_sR, gI_sJ, gR_sJ, gJ_sJ, true_and, and_true, false_and, and_false, if_true, if_false, if_pos, if_neg, hto', hc, List.length_cons, add_neg, l1, l2, hp, hp2, nrn0, nrn1]
      · cases h5

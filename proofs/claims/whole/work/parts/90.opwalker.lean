/-! a WALKER more, on both sides -/
section OW
variable {L L' : List Nat} {W : Nat → Nat} {N : Nat → List cls} {x m : gMem} {n k : Nat} {p0 p1 p2 : Int32}
/-- the reference's rows of a new WALKER -/
def mWk (m : gMem) (n : Nat) (p0 p1 p2 : Int32) : gMem := gsI (gsI (gsI (gsI (gsI (gsI (gsI m 2 n p0) 3 n p1) 4 n p2) 5 (4 * n + 0) 0) 5 (4 * n + 1) 0) 5 (4 * n + 2) 0) 5 (4 * n + 3) 0
theorem m_walker (hn : n < 4) (en : gI m 0 0 = nI n) (h0 : okI p0 7) (h1 : okI p1 10) (h2 : okI p2 12) : f_X12_walker m p0 p1 p2 = some (nI n, gsI (mWk m n p0 p1 p2) 0 0 (nI (n + 1))) := by
  have e4 : (4 : Int32) * nI n = nI (4 * n) := pk_mul ..
  unfold f_X12_walker
  rw [m_in0 p0 _ 7 rfl, bd_s, if_pos h0, if_neg (show ¬ (1 : Int32) = 0 by decide), m_isBoard, bd_s, if_pos h2, if_neg (show ¬ (1 : Int32) = 0 by decide), m_in0 p1 _ 10 rfl, bd_s, if_pos h1, if_neg (show ¬ (1 : Int32) = 0 by decide), en, if_neg (show ¬ nI n = (4 : Int32) from fun z => by have : n = 4 := nI_inj (by omega) (by decide) z; omega), if_pos (okN hn (by decide)), ixN (by omega), lt1_s, gI_n (show ¬ (0 = 2 ∧ 0 = n) by omega), en, if_pos (okN hn (by decide)), ixN (by omega), lt1_s, gI_n (show ¬ (0 = 3 ∧ 0 = n) by omega), gI_n (show ¬ (0 = 2 ∧ 0 = n) by omega), en, if_pos (okN hn (by decide)), ixN (by omega), lt1_s, jn_s]
  have st : ∀ (j6 : gMem → Option (Int32 × gMem)) (F : Int32 → gMem → Option (Int32 × gMem)) (j : Nat) (y : gMem), j < 4 → gI y 0 0 = nI n → s_X12_walker_79 j6 F (nI j) y = F (nI (j + 1)) (gsI y 5 (4 * n + j) 0) := fun j6 F j y hj hy => by
    unfold s_X12_walker_79
    rw [if_neg (show ¬ (4 : Int32) ≤ nI j from nI_ge (b := 4) hj (by decide)), hy, e4, nI_add, if_pos (okN (by omega) (by decide)), ixN (by omega), lt1_s, nI_1, lt1_s]
  have fin : ∀ (j6 : gMem → Option (Int32 × gMem)) (F : Int32 → gMem → Option (Int32 × gMem)) (y : gMem), s_X12_walker_79 j6 F (nI (0 + 1 + 1 + 1 + 1)) y = j6 y := fun j6 F y => by
    unfold s_X12_walker_79
    rw [if_pos (show (4 : Int32) ≤ nI (0 + 1 + 1 + 1 + 1) by decide)]
  have b0 : gI (gsI (gsI (gsI m 2 n p0) 3 n p1) 4 n p2) 0 0 = nI n := by rw [gI_n (by omega), gI_n (by omega), gI_n (by omega), en]
  rw [li0, show (1000 : Nat) = 995 + 1 + 1 + 1 + 1 + 1 from rfl, lq2_u, st _ _ 0 _ (by decide) b0, lq2_u, st _ _ _ _ (by decide) (by rw [gI_n (by omega)]; exact b0), lq2_u, st _ _ _ _ (by decide) (by rw [gI_n (by omega), gI_n (by omega)]; exact b0), lq2_u, st _ _ _ _ (by decide) (by rw [gI_n (by omega), gI_n (by omega), gI_n (by omega)]; exact b0), lq2_u, fin]
  have e : gI (mWk m n p0 p1 p2) 0 0 = nI n := by unfold mWk; rw [gI_n (by omega), gI_n (by omega), gI_n (by omega), gI_n (by omega)]; exact b0
  show lt1 (gsI (mWk m n p0 p1 p2) 0 0 (gI (mWk m n p0 p1 p2) 0 0 + 1)) _ = _
  rw [e, nI_1, lt1_s, gI_y ⟨rfl, rfl⟩, show nI (n + 1) - 1 = nI n from pk_sub (a := n + 1) (b := 1) (by omega)]
theorem wok.up (h : wok L n) (hL : ∀ o ∈ L, o ∈ L') : wok L' n := ⟨h.1, h.2.1, h.2.2.1, hL _ h.2.2.2.1, hL _ h.2.2.2.2.1, fun z => ⟨hL _ (h.2.2.2.2.2 z).1, hL _ (h.2.2.2.2.2 z).2⟩⟩
/-- the call fails on both sides alike -/
theorem walker_no (H : Rel L W N x m) (h : ¬ (okI p0 7 ∧ okI p1 10 ∧ okI p2 12 ∧ ∃ n, n < 4 ∧ gI m 0 0 = nI n)) : ∃ v, f_Wf x p0 p1 p2 = some (v, x) ∧ f_X12_walker m p0 p1 p2 = some (v, m) := by
  obtain ⟨n, hn, en, hW⟩ := H.2.1
  have ex : gI x 10 3 = nI n := (show gI x 10 3 = gI m 0 0 from H.1.1.2.2.1).trans en
  have t6 : (7 : Int32).toInt = 7 := rfl
  have t9 : (9 : Int32).toInt = 9 := rfl
  have t0 : (0 : Int32).toInt = 0 := rfl
  unfold f_Wf f_X12_walker
  rw [m_in0 p0 _ 7 rfl, bd_s, m_isBoard, bd_s, x_isBoard, m_in0 p1 _ 10 rfl, bd_s]
  by_cases a0 : okI p0 7
  rotate_left
  · refine ⟨-1, ?_, by rw [if_neg a0, if_pos rfl]⟩
    by_cases z : p0 < 0
    · rw [if_pos z]
    · rw [if_neg z, if_pos (by rw [i_le, t6]; rw [i_lt, t0] at z; exact Int.not_lt.mp (fun w => a0 ⟨by omega, by omega⟩))]
  have z0 : ¬ p0 < 0 := by rw [i_lt, t0]; have := a0.1; omega
  have z7 : ¬ (7 : Int32) ≤ p0 := by rw [i_le, t6]; have := a0.2; omega
  rw [if_neg z0, if_neg z7, if_pos a0, if_neg (show ¬ (1 : Int32) = 0 by decide), bd_s]
  by_cases a2 : okI p2 12
  rotate_left
  · exact ⟨-1, by rw [if_neg a2, if_pos rfl], by rw [if_neg a2, if_pos rfl]⟩
  rw [if_pos a2, if_neg (show ¬ (1 : Int32) = 0 by decide), if_neg (show ¬ (1 : Int32) = 0 by decide)]
  by_cases a1 : okI p1 10
  rotate_left
  · refine ⟨-2, ?_, by rw [if_neg a1, if_pos rfl]⟩
    by_cases z : p1 < 0
    · rw [if_pos z]
    · rw [if_neg z, if_neg (by rw [i_le, t9]; rw [i_lt, t0] at z; intro w; exact a1 ⟨by omega, by omega⟩)]
  have z1 : ¬ p1 < 0 := by rw [i_lt, t0]; have := a1.1; omega
  have z9 : p1 ≤ (9 : Int32) := by rw [i_le, t9]; have := a1.2; omega
  have hn4 : n = 4 := by
    by_cases z : n < 4
    · exact absurd ⟨a0, a1, a2, n, z, en⟩ h
    · omega
  subst hn4
  exact ⟨-4, by rw [if_neg z1, if_pos z9, ex, if_neg (show ¬ nI 4 < (0 : Int32) by decide), if_neg (show ¬ nI 4 < (4 : Int32) by decide)], by rw [if_pos a1, if_neg (show ¬ (1 : Int32) = 0 by decide), en, if_pos (show nI 4 = (4 : Int32) from rfl)]⟩
end OW

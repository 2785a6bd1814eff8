/-! THE TEXT: one test, the reference -/
section T3
variable {x m : gMem} {tx : Nat → Nat} {len p : Nat}
theorem rl_in {c : Nat} (h : c ≤ 200) : ((60 : Int32).toInt ≤ (sv c).toInt ∧ (sv c).toInt ≤ (62 : Int32).toInt) ↔ rlc c ≠ 3 := by
  have e1 : (60 : Int32).toInt = 60 := rfl
  have e2 : (62 : Int32).toInt = 62 := rfl
  rw [sv_toInt h, e1, e2]
  unfold rlc
  by_cases q : c = 200
  · rw [if_pos q, if_neg (by omega)]; omega
  · rw [if_neg q]
    by_cases r : 60 ≤ c ∧ c ≤ 62
    · rw [if_pos r]; omega
    · rw [if_neg r]; omega
theorem rl_sub : ∀ c, c < 63 → 60 ≤ c → sv c - (60 : Int32) = nI (rlc c) := by decide +kernel
theorem m_readTest (h : TXM m tx len) (e : gI m 0 14 = nI p) (hp : p ≤ len) : ((rdT tx len p).1 = none ∧ ∃ m', f_X12_takesTest m = some (0, m') ∧ gI m' 0 14 = nI (rdT tx len p).2 ∧ okA m m') ∨ ∃ f rl v q m1, rdT tx len p = (some (f, rl, v), q) ∧ f_X12_takesTest m = (bd (f_X12_emits m1 (nI (1000 * f + 100 * rl + v))) fun (m9 : gMem) => bd (f_X12_whole m9) fun (m10 : gMem) => some ((1 : Int32), m10)) ∧ gI m1 0 14 = nI q ∧ okA m m1 := by
  have h6 := plc_le (sg tx len p)
  have h3 := rlc_le (sg tx len (p + 1))
  have hle : sg tx len (p + 1) ≤ 200 := sg_200 fun k hk => (h.2.2 k hk).2
  unfold f_X12_takesTest rdT
  rw [m_next h e hp, bd_s, m_place (fun k hk => (h.2.2 k hk).2), bd_s]
  by_cases c6 : plc (sg tx len p) = 6
  · refine Or.inl ⟨by rw [if_pos c6], m, ?_, by rw [if_pos c6]; exact e, okA.rfl⟩
    rw [if_neg (fun z => ((pl6_le h6 (by decide)).mp z) c6)]
  have l1 := plc_lt c6
  have a1 := okA.s m 14 (nI (p + 1)) (Or.inl rfl)
  have b1 : gI (gsI m 0 14 (nI (p + 1))) 0 14 = nI (p + 1) := gI_y ⟨rfl, rfl⟩
  rw [if_pos ((pl6_le h6 (by decide)).mpr c6), e, nI_1, lt1_s, m_next (h.fr a1) b1 (by omega), bd_s, m_in, bd_s, if_neg c6]
  by_cases c3 : rlc (sg tx len (p + 1)) = 3
  · refine Or.inl ⟨by rw [if_pos c3], _, ?_, by rw [if_pos c3]; exact b1, a1⟩
    simp only [if_neg (fun z => (rl_in hle).mp z c3)]
    rfl
  have l2 := rlc_lt c3
  have a2 := a1.trans (okA.s _ 14 (nI (p + 2)) (Or.inl rfl))
  have b2 : gI (gsI (gsI m 0 14 (nI (p + 1))) 0 14 (nI (p + 2))) 0 14 = nI (p + 2) := gI_y ⟨rfl, rfl⟩
  have hin : (if (60 : Int32).toInt ≤ (sv (sg tx len (p + 1))).toInt ∧ (sv (sg tx len (p + 1))).toInt ≤ (62 : Int32).toInt then (1 : Int32) else 0) = 1 := if_pos ((rl_in hle).mpr c3)
  rw [hin, if_neg (show ¬ (1 : Int32) = 0 by decide), b1, nI_1, lt1_s, if_neg c3]
  rcases m_number (h.fr a2) b2 (by omega) with ⟨d1, d2⟩ | ⟨v, q, m3, d1, d2, d3, d4, d5⟩
  · refine Or.inl ⟨by rw [d1], _, ?_, by rw [d1]; exact b2, a2⟩
    rw [d2, bd2_s, if_pos rfl]
  · refine Or.inr ⟨_, _, v, q, m3, by rw [d1], ?_, d3, a2.trans d5⟩
    have e1 : pl6 6 (plc (sg tx len p)) = nI (plc (sg tx len p)) := if_neg c6
    have hr : 60 ≤ sg tx len (p + 1) ∧ sg tx len (p + 1) ≤ 62 := by
      unfold rlc at c3
      split at c3
      · assumption
      · exact absurd rfl c3
    rw [d2, bd2_s, if_neg (show ¬ (1 : Int32) = 0 by decide), e1, rl_sub _ (by omega) hr.1, d4, li1000, li100, pk_mul, pk_mul, nI_add, nI_add]
end T3

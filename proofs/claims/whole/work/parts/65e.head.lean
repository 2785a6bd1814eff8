/-! THE TEXT: the head of a CLAUSE -/
def rdH (tx : Nat → Nat) (len p : Nat) : Option Nat × Nat := if sg tx len p = 99 then (if (rdW tx len wCreak 6 0 p).1 = true then some 1 else none, (rdW tx len wCreak 6 0 p).2) else if sg tx len p = 100 then (if (rdW tx len wDeep 5 0 p).1 = true then some 0 else none, (rdW tx len wDeep 5 0 p).2) else (if (rdW tx len wHush 5 0 p).1 = true then some 2 else none, (rdW tx len wHush 5 0 p).2)
def hv : Option Nat → Int32
  | none => -1
  | some w => nI w
def hb : Option Nat → Int32
  | none => 0
  | some _ => 1
theorem rdW_le (tx : Nat → Nat) (len : Nat) (w : Nat → Nat) : ∀ d i p, p ≤ (rdW tx len w d i p).2
  | 0, _, p => Nat.le_refl p
  | d + 1, i, p => by
    rw [rdW]
    split
    · have := rdW_le tx len w d (i + 1) (p + 1)
      omega
    · exact Nat.le_refl p
theorem rdH_le (tx : Nat → Nat) (len p : Nat) : p ≤ (rdH tx len p).2 := by
  unfold rdH
  split
  · exact rdW_le ..
  · split
    · exact rdW_le ..
    · exact rdW_le ..
section H1
variable {L : List Nat} {x m : gMem} {tx : Nat → Nat} {len p : Nat}
theorem rdH_3 {w : Nat} (h : (rdH tx len p).1 = some w) : w < 3 := by
  unfold rdH at h
  split at h
  · dsimp only at h
    split at h
    · cases h; decide
    · cases h
  · split at h
    · dsimp only at h
      split at h
      · cases h; decide
      · cases h
    · dsimp only at h
      split at h
      · cases h; decide
      · cases h
theorem x_head (h : TXX x tx len) (e : gI x 30 2 = nI p) (hp : p ≤ len) : ∃ x', f_X4_readWord L x = some (hv (rdH tx len p).1, x') ∧ gI x' 30 2 = nI (rdH tx len p).2 ∧ okR x x' ∧ (rdH tx len p).2 ≤ len := by
  have hle : sg tx len p ≤ 200 := sg_200 fun k hk => (h.2.2 k hk).2
  unfold f_X4_readWord rdH
  rw [x_sign h e hp, bd_s]
  by_cases c1 : sg tx len p = 99
  · obtain ⟨x', a1, a2, a3, a4⟩ := x_creak (L := L) h e hp
    rw [if_pos (show sv (sg tx len p) = (99 : Int32) from (sv_eq hle (by decide)).mpr c1), if_pos c1, a1, bd2_s]
    refine ⟨x', ?_, a2, a3, a4⟩
    by_cases b : (rdW tx len wCreak 6 0 p).1 = true
    · simp only [if_pos b]; rfl
    · simp only [if_neg b]; rfl
  rw [if_neg (show ¬ sv (sg tx len p) = (99 : Int32) from fun z => c1 ((sv_eq hle (by decide)).mp z)), if_neg c1]
  by_cases c2 : sg tx len p = 100
  · obtain ⟨x', a1, a2, a3, a4⟩ := x_deep (L := L) h e hp
    rw [if_pos (show sv (sg tx len p) = (100 : Int32) from (sv_eq hle (by decide)).mpr c2), if_pos c2, a1, bd2_s]
    refine ⟨x', ?_, a2, a3, a4⟩
    by_cases b : (rdW tx len wDeep 5 0 p).1 = true
    · simp only [if_pos b]; rfl
    · simp only [if_neg b]; rfl
  rw [if_neg (show ¬ sv (sg tx len p) = (100 : Int32) from fun z => c2 ((sv_eq hle (by decide)).mp z)), if_neg c2]
  by_cases c3 : sg tx len p = 104
  · obtain ⟨x', a1, a2, a3, a4⟩ := x_hush (L := L) h e hp
    rw [if_pos (show sv (sg tx len p) = (104 : Int32) from (sv_eq hle (by decide)).mpr c3), a1, bd2_s]
    refine ⟨x', ?_, a2, a3, a4⟩
    by_cases b : (rdW tx len wHush 5 0 p).1 = true
    · simp only [if_pos b]; rfl
    · simp only [if_neg b]; rfl
  have hw : rdW tx len wHush 5 0 p = (false, p) := by
    rw [rdW, if_neg (show ¬ sg tx len p = wHush 0 from c3)]
  rw [if_neg (show ¬ sv (sg tx len p) = (104 : Int32) from fun z => c3 ((sv_eq hle (by decide)).mp z)), hw]
  exact ⟨x, rfl, e, okR.rfl, hp⟩
theorem m_head {B P : Nat} (h : TXM m tx len) (e : gI m 0 14 = nI p) (hp : p ≤ len) (h6 : ∀ k, k < 13 → gI m 14 k = nI (lett k)) (hP : P < 60) : ∃ m', f_X12_takesHead m (nI P) = some (hb (rdH tx len p).1, m') ∧ gI m' 0 14 = nI (rdH tx len p).2 ∧ (∀ w, (rdH tx len p).1 = some w → gI m' 8 P = nI w) ∧ okT B P m m' ∧ (rdH tx len p).2 ≤ len ∧ gI m' 0 24 = gI m 0 24 := by
  have hle : sg tx len p ≤ 200 := sg_200 fun k hk => (h.2.2 k hk).2
  have fr : ∀ v : Int32, okT B P m (gsI m 8 P v) := fun v => okT.s _ _ _ _ (by omega)
  have e2 : ∀ v : Int32, gI (gsI m 8 P v) 0 14 = nI p := fun v => by rw [gI_n (by omega)]; exact e
  have l2 : ∀ v : Int32, ∀ k, k < 13 → gI (gsI m 8 P v) 14 k = nI (lett k) := fun v k hk => by rw [gI_n (by omega)]; exact h6 k hk
  unfold f_X12_takesHead rdH
  rw [m_next h e hp, bd_s]
  by_cases c1 : sg tx len p = 99
  · obtain ⟨m', a1, a2, a3, a4⟩ := m_takesWord (a := 4) (n := 5) (w := wCreak) ww1 rfl (by decide) (h.ft (fr 1)) (e2 _) hp (l2 _)
    rw [if_pos (show sv (sg tx len p) = (99 : Int32) from (sv_eq hle (by decide)).mpr c1), if_pos c1, if_pos (okN hP (by decide)), ixN (by omega), lt1_s]
    rw [show f_X12_takesWord (gsI m 8 P 1) 4 5 = _ from a1, bd2_s]
    refine ⟨m', ?_, a2, fun w hw => ?_, (fr 1).trans a3.toT, a4, by rw [a3.1 _ _ (by omega), gI_n (by omega)]⟩
    · by_cases b : (rdW tx len wCreak 6 0 p).1 = true
      · simp only [if_pos b]; rfl
      · simp only [if_neg b]; rfl
    · rw [a3.1 _ _ (by omega), gI_y ⟨rfl, rfl⟩]
      dsimp only at hw
      split at hw
      · cases hw; rfl
      · cases hw
  rw [if_neg (show ¬ sv (sg tx len p) = (99 : Int32) from fun z => c1 ((sv_eq hle (by decide)).mp z)), if_neg c1]
  by_cases c2 : sg tx len p = 100
  · obtain ⟨m', a1, a2, a3, a4⟩ := m_takesWord (a := 0) (n := 4) (w := wDeep) ww0 rfl (by decide) (h.ft (fr 0)) (e2 _) hp (l2 _)
    rw [if_pos (show sv (sg tx len p) = (100 : Int32) from (sv_eq hle (by decide)).mpr c2), if_pos c2, if_pos (okN hP (by decide)), ixN (by omega), lt1_s]
    rw [show f_X12_takesWord (gsI m 8 P 0) 0 4 = _ from a1, bd2_s]
    refine ⟨m', ?_, a2, fun w hw => ?_, (fr 0).trans a3.toT, a4, by rw [a3.1 _ _ (by omega), gI_n (by omega)]⟩
    · by_cases b : (rdW tx len wDeep 5 0 p).1 = true
      · simp only [if_pos b]; rfl
      · simp only [if_neg b]; rfl
    · rw [a3.1 _ _ (by omega), gI_y ⟨rfl, rfl⟩]
      dsimp only at hw
      split at hw
      · cases hw; rfl
      · cases hw
  rw [if_neg (show ¬ sv (sg tx len p) = (100 : Int32) from fun z => c2 ((sv_eq hle (by decide)).mp z)), if_neg c2]
  obtain ⟨m', a1, a2, a3, a4⟩ := m_takesWord (a := 9) (n := 4) (w := wHush) ww2 rfl (by decide) (h.ft (fr 2)) (e2 _) hp (l2 _)
  rw [if_pos (okN hP (by decide)), ixN (by omega), lt1_s]
  rw [show f_X12_takesWord (gsI m 8 P 2) 9 4 = _ from a1, bd2_s]
  refine ⟨m', ?_, a2, fun w hw => ?_, (fr 2).trans a3.toT, a4, by rw [a3.1 _ _ (by omega), gI_n (by omega)]⟩
  · by_cases b : (rdW tx len wHush 5 0 p).1 = true
    · simp only [if_pos b]; rfl
    · simp only [if_neg b]; rfl
  · rw [a3.1 _ _ (by omega), gI_y ⟨rfl, rfl⟩]
    dsimp only at hw
    split at hw
    · cases hw; rfl
    · cases hw
end H1

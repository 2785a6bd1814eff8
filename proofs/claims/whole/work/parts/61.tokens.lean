/-! THE TEXT: the signs, as both see them -/
def sg (tx : Nat → Nat) (len p : Nat) : Nat := if p < len then tx p else 200
def sv (c : Nat) : Int32 := if c = 200 then -1 else nI c
def TXX (x : gMem) (tx : Nat → Nat) (len : Nat) : Prop := gI x 30 1 = nI len ∧ len ≤ 100 ∧ ∀ k, k < len → gI x 31 k = nI (tx k) ∧ tx k ≤ 127
def TXM (m : gMem) (tx : Nat → Nat) (len : Nat) : Prop := gI m 0 13 = nI len ∧ len ≤ 100 ∧ ∀ k, k < len → gI m 6 k = nI (tx k) ∧ tx k ≤ 127
theorem sg_le {tx : Nat → Nat} {len p : Nat} (h : ∀ k, k < len → tx k ≤ 127) : sg tx len p ≤ 127 ∨ (sg tx len p = 200 ∧ len ≤ p) := by
  unfold sg
  by_cases q : p < len
  · rw [if_pos q]; exact Or.inl (h p q)
  · rw [if_neg q]; exact Or.inr ⟨rfl, by omega⟩
theorem sv_toInt {c : Nat} (h : c ≤ 200) : (sv c).toInt = if c = 200 then -1 else (c : Int) := by
  unfold sv
  split
  · rfl
  · exact nI_toInt (by omega)
theorem sv_eq {c k : Nat} (h : c ≤ 200) (hk : k < 200) : (sv c = nI k) = (c = k) := by
  rw [i_eq, sv_toInt h, nI_toInt (by omega)]
  split
  · exact propext ⟨fun q => by omega, fun q => by omega⟩
  · exact propext ⟨fun q => by omega, fun q => by omega⟩
theorem x_sign {L : List Nat} {x : gMem} {tx : Nat → Nat} {len p : Nat} (h : TXX x tx len) (e : gI x 30 2 = nI p) (hp : p ≤ len) : f_X4_sign L x = some (sv (sg tx len p)) := by
  obtain ⟨h1, h2, h3⟩ := h
  unfold f_X4_sign sg
  rw [e, h1, if_neg (nI_pos (by omega))]
  by_cases q : p < len
  · obtain ⟨h4, h5⟩ := h3 p q
    rw [if_neg (nI_ge q (by omega)), if_neg (show ¬ (100 : Int32) ≤ nI p from nI_ge (b := 100) (by omega) (by decide)), if_pos (okN (by omega) (by decide)), ixN (by omega), h4, if_pos q, sv, if_neg (by omega)]
  · rw [if_pos (nI_le (by omega) (by omega)), if_neg q]; rfl
theorem m_next {m : gMem} {tx : Nat → Nat} {len p : Nat} (h : TXM m tx len) (e : gI m 0 14 = nI p) (hp : p ≤ len) : f_X12_next m = some (sv (sg tx len p)) := by
  obtain ⟨h1, h2, h3⟩ := h
  unfold f_X12_next sg
  rw [e, h1]
  by_cases q : p < len
  · obtain ⟨h4, h5⟩ := h3 p q
    rw [if_neg (nI_ge q (by omega)), if_pos (okN (show p < 100 by omega) (by decide)), ixN (by omega), h4, if_pos q, sv, if_neg (by omega)]
  · rw [if_pos (nI_le (by omega) (by omega)), if_neg q]; rfl
/-- one sign, if it is there -/
theorem x_skip {L : List Nat} {x : gMem} {tx : Nat → Nat} {len p c : Nat} (h : TXX x tx len) (e : gI x 30 2 = nI p) (hp : p ≤ len) (hc : c < 200) : f_X4_skip L x (nI c) = if sg tx len p = c then some (1, gsI x 30 2 (nI (p + 1))) else some (0, x) := by
  have hle : sg tx len p ≤ 200 := by rcases sg_le (p := p) (fun k hk => (h.2.2 k hk).2) with q | q <;> omega
  unfold f_X4_skip
  rw [x_sign h e hp, bd_s, jn_s, e]
  by_cases q : sg tx len p = c
  · rw [if_pos ((sv_eq hle hc).mpr q), if_pos q]
    dsimp only
    rw [if_neg (by decide), nI_1, lt1_s, if_pos (by decide)]
  · rw [if_neg (fun z => q ((sv_eq hle hc).mp z)), if_neg q]
    dsimp only
    rw [if_pos rfl, if_pos (by decide)]
theorem m_takes {m : gMem} {tx : Nat → Nat} {len p c : Nat} (h : TXM m tx len) (e : gI m 0 14 = nI p) (hp : p ≤ len) (hc : c < 200) : f_X12_takes m (nI c) = if sg tx len p = c then some (1, gsI m 0 14 (nI (p + 1))) else some (0, m) := by
  have hle : sg tx len p ≤ 200 := by rcases sg_le (p := p) (fun k hk => (h.2.2 k hk).2) with q | q <;> omega
  unfold f_X12_takes
  rw [m_next h e hp, bd_s, e]
  by_cases q : sg tx len p = c
  · rw [if_pos ((sv_eq hle hc).mpr q), if_pos q, nI_1, lt1_s]
  · rw [if_neg (fun z => q ((sv_eq hle hc).mp z)), if_neg q]

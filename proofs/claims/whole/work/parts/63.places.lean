/-! THE TEXT: letters and relations -/
def plc (c : Nat) : Nat := if c = 109 then 0 else if c = 120 then 1 else if c = 121 then 2 else if c = 99 then 3 else if c = 107 then 4 else if c = 116 then 5 else 6
def rlc (c : Nat) : Nat := if 60 ≤ c ∧ c ≤ 62 then c - 60 else 3
def pl6 (n k : Nat) : Int32 := if k = n then -1 else nI k
theorem ix3 : ∀ c, c < 128 → f_J0_indexOf_0f7a4 3 (((nI c).toUInt32 % 65536).toInt32) = some (pl6 6 (plc c)) := by decide +kernel
theorem ix4 : ∀ c, c < 128 → f_J0_indexOf_0f7a4 4 (((nI c).toUInt32 % 65536).toInt32) = some (pl6 3 (rlc c)) := by decide +kernel
theorem mpl : ∀ c, c < 128 → f_X12_place (nI c) = some (pl6 6 (plc c)) := by decide +kernel
section N2
variable {L : List Nat} {x m : gMem} {tx : Nat → Nat} {len p : Nat}
theorem x_place3 (h : TXX x tx len) (e : gI x 30 2 = nI p) (hp : p ≤ len) : f_X4_placeOfSign3 L x = some (pl6 6 (plc (sg tx len p))) := by
  unfold f_X4_placeOfSign3
  rw [x_sign h e hp, bd_s]
  rcases sg_le (p := p) (fun k hk => (h.2.2 k hk).2) with q | ⟨q, -⟩
  · have hv : sv (sg tx len p) = nI (sg tx len p) := by rw [sv, if_neg (by omega)]
    rw [hv, if_pos (nI_pos' (by omega)), bd_s, ix3 _ (by omega), bd_s]
  · rw [q]; rfl
theorem x_place4 (h : TXX x tx len) (e : gI x 30 2 = nI p) (hp : p ≤ len) : f_X4_placeOfSign4 L x = some (pl6 3 (rlc (sg tx len p))) := by
  unfold f_X4_placeOfSign4
  rw [x_sign h e hp, bd_s]
  rcases sg_le (p := p) (fun k hk => (h.2.2 k hk).2) with q | ⟨q, -⟩
  · have hv : sv (sg tx len p) = nI (sg tx len p) := by rw [sv, if_neg (by omega)]
    rw [hv, if_pos (nI_pos' (by omega)), bd_s, ix4 _ (by omega), bd_s]
  · rw [q]; rfl
theorem m_place (h : ∀ k, k < len → tx k ≤ 127) : f_X12_place (sv (sg tx len p)) = some (pl6 6 (plc (sg tx len p))) := by
  rcases sg_le (p := p) h with q | ⟨q, -⟩
  · have hv : sv (sg tx len p) = nI (sg tx len p) := by rw [sv, if_neg (by omega)]
    rw [hv, mpl _ (by omega)]
  · rw [q]; rfl
end N2

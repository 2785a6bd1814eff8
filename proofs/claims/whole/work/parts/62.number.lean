/-! THE TEXT: one or two digits -/
def okR (x x' : gMem) : Prop := (∀ o k, ¬ (o = 30 ∧ k = 2) → gI x' o k = gI x o k) ∧ (∀ o k, gJ x' o k = gJ x o k) ∧ ∀ o k, gR x' o k = gR x o k
def okA (x x' : gMem) : Prop := (∀ o k, ¬ (o = 0 ∧ (k = 14 ∨ k = 15)) → gI x' o k = gI x o k) ∧ (∀ o k, gJ x' o k = gJ x o k) ∧ ∀ o k, gR x' o k = gR x o k
theorem okR.rfl {x : gMem} : okR x x := ⟨fun _ _ _ => Eq.refl _, fun _ _ => Eq.refl _, fun _ _ => Eq.refl _⟩
theorem okA.rfl {x : gMem} : okA x x := ⟨fun _ _ _ => Eq.refl _, fun _ _ => Eq.refl _, fun _ _ => Eq.refl _⟩
theorem okR.trans {x y z : gMem} (h1 : okR x y) (h2 : okR y z) : okR x z := ⟨fun o k h => (h2.1 o k h).trans (h1.1 o k h), fun o k => (h2.2.1 o k).trans (h1.2.1 o k), fun o k => (h2.2.2 o k).trans (h1.2.2 o k)⟩
theorem okA.trans {x y z : gMem} (h1 : okA x y) (h2 : okA y z) : okA x z := ⟨fun o k h => (h2.1 o k h).trans (h1.1 o k h), fun o k => (h2.2.1 o k).trans (h1.2.1 o k), fun o k => (h2.2.2 o k).trans (h1.2.2 o k)⟩
theorem okR.s (x : gMem) (v : Int32) : okR x (gsI x 30 2 v) := ⟨fun o k h => gI_n h, fun _ _ => Eq.refl _, fun _ _ => Eq.refl _⟩
theorem okA.s (x : gMem) (k : Nat) (v : Int32) (hk : k = 14 ∨ k = 15) : okA x (gsI x 0 k v) := ⟨fun o c h => gI_n (by omega), fun _ _ => Eq.refl _, fun _ _ => Eq.refl _⟩
theorem TXX.fr {x x' : gMem} {tx : Nat → Nat} {len : Nat} (h : TXX x tx len) (hx : okR x x') : TXX x' tx len := ⟨(hx.1 _ _ (by omega)).trans h.1, h.2.1, fun k hk => ⟨(hx.1 _ _ (by omega)).trans (h.2.2 k hk).1, (h.2.2 k hk).2⟩⟩
theorem TXM.fr {x x' : gMem} {tx : Nat → Nat} {len : Nat} (h : TXM x tx len) (hx : okA x x') : TXM x' tx len := ⟨(hx.1 _ _ (by omega)).trans h.1, h.2.1, fun k hk => ⟨(hx.1 _ _ (by omega)).trans (h.2.2 k hk).1, (h.2.2 k hk).2⟩⟩
abbrev dgt (c : Nat) : Prop := 48 ≤ c ∧ c ≤ 57
/-- the number, and what comes behind it -/
def rdN (tx : Nat → Nat) (len p : Nat) : Option (Nat × Nat) := if dgt (sg tx len p) then (if dgt (sg tx len (p + 1)) then some (10 * (sg tx len p - 48) + (sg tx len (p + 1) - 48), p + 2) else some (sg tx len p - 48, p + 1)) else none
theorem rdN_le {tx : Nat → Nat} {len p v q : Nat} (h : rdN tx len p = some (v, q)) : v ≤ 99 ∧ p < q ∧ q ≤ len := by
  have lt : ∀ p, dgt (sg tx len p) → p < len := fun p z => by
    unfold sg dgt at z
    split at z <;> omega
  unfold rdN at h
  split at h
  · rename_i h1
    have l1 := lt _ h1
    unfold dgt at h1
    split at h
    · rename_i h2
      have l2 := lt _ h2
      unfold dgt at h2
      cases h; omega
    · cases h; omega
  · cases h
theorem dg1 : ∀ c, c < 58 → 48 ≤ c → (((if (0 : Int32) < -1 then (-1 : Int32) else 0) * 10) + nI c) - 48 = nI (c - 48) := by decide +kernel
theorem dg2 : ∀ a, a < 10 → ∀ d, d < 58 → 48 ≤ d → (((if (0 : Int32) < nI a then nI a else 0) * 10) + nI d) - 48 = nI (10 * a + (d - 48)) := by decide +kernel
theorem dg3 : ∀ a, a < 10 → ∀ d, d < 58 → 48 ≤ d → ((10 : Int32) * nI a + nI d) - 48 = nI (10 * a + (d - 48)) := by decide +kernel
theorem sv_d {c : Nat} (h : c ≤ 200) : (sv c < (48 : Int32)) = (c < 48 ∨ c = 200) ∧ ((57 : Int32) < sv c) = (57 < c ∧ c ≠ 200) := by
  have e1 : (48 : Int32).toInt = 48 := rfl
  have e2 : (57 : Int32).toInt = 57 := rfl
  rw [i_lt, i_lt, sv_toInt h, e1, e2]
  constructor
  · split
    · exact propext ⟨fun _ => by omega, fun _ => by omega⟩
    · exact propext ⟨fun _ => by omega, fun _ => by omega⟩
  · split
    · exact propext ⟨fun _ => by omega, fun _ => by omega⟩
    · exact propext ⟨fun _ => by omega, fun _ => by omega⟩
section N1
variable {L : List Nat} {x m : gMem} {tx : Nat → Nat} {len p : Nat}
theorem sg_200 (h : ∀ k, k < len → tx k ≤ 127) : sg tx len p ≤ 200 := by rcases sg_le (p := p) h with q | q <;> omega
theorem x_digit (h : TXX x tx len) (e : gI x 30 2 = nI p) (hp : p ≤ len) {i : Nat} (hi : i < 2) (x2 : Int32) (F : Int32 → Int32 → gMem → Option (Int32 × gMem)) : s_X4_readNumber_4 L F x2 (nI i) x = if dgt (sg tx len p) then F ((((if (0 : Int32) < x2 then x2 else (0 : Int32)) * (10 : Int32)) + nI (sg tx len p)) - (48 : Int32)) (nI (i + 1)) (gsI x 30 2 (nI (p + 1))) else some (x2, x) := by
  have hle : sg tx len p ≤ 200 := sg_200 fun k hk => (h.2.2 k hk).2
  have hd := sv_d hle
  unfold s_X4_readNumber_4
  rw [if_neg (show ¬ (2 : Int32) ≤ nI i from nI_ge (b := 2) hi (by decide)), x_sign h e hp, bd_s]
  by_cases q : dgt (sg tx len p)
  · have q' := q
    unfold dgt at q'
    rw [if_pos q, if_neg (fun z => by have := hd.1.mp z; omega), bd_s, if_neg (fun z => by have := hd.2.mp z; omega), bd_s, lt1_s, e, nI_1, lt1_s, nI_1, lt1_s, sv, if_neg (show ¬ sg tx len p = 200 by omega)]
  · rw [if_neg q]
    by_cases z : sv (sg tx len p) < 48
    · rw [if_pos z]
    · rw [if_neg z, bd_s, if_pos (hd.2.mpr (by
        have z2 : ¬ (sg tx len p < 48 ∨ sg tx len p = 200) := fun w => z (hd.1.mpr w)
        unfold dgt at q
        omega))]
theorem x_number (h : TXX x tx len) (e : gI x 30 2 = nI p) (hp : p ≤ len) : (rdN tx len p = none ∧ f_X4_readNumber L x = some (-1, x)) ∨ ∃ v q x', rdN tx len p = some (v, q) ∧ f_X4_readNumber L x = some (nI v, x') ∧ gI x' 30 2 = nI q ∧ okR x x' := by
  have hF : ∀ y a b, lq3 (s_X4_readNumber_4 L) 1000 a b y = s_X4_readNumber_4 L (lq3 (s_X4_readNumber_4 L) 999) a b y := fun y a b => lq3_u ..
  unfold f_X4_readNumber rdN
  rw [li0, hF, x_digit h e hp (by decide)]
  by_cases d1 : dgt (sg tx len p)
  · refine Or.inr ?_
    have d1' := d1
    unfold dgt at d1'
    have hlt : p < len := by
      unfold sg at d1'
      split at d1' <;> omega
    have h1 := h.fr (okR.s x (nI (p + 1)))
    rw [if_pos d1, if_pos d1, dg1 _ (by omega) (by omega), show (999 : Nat) = 998 + 1 from rfl, lq3_u, x_digit h1 (gI_y ⟨rfl, rfl⟩) (by omega) (by decide)]
    by_cases d2 : dgt (sg tx len (p + 1))
    · have d2' := d2
      unfold dgt at d2'
      rw [if_pos d2, if_pos d2, dg2 _ (by omega) _ (by omega) (by omega), show (998 : Nat) = 997 + 1 from rfl, lq3_u]
      generalize lq3 (s_X4_readNumber_4 L) 997 = F
      refine ⟨_, _, gsI (gsI x 30 2 (nI (p + 1))) 30 2 (nI (p + 1 + 1)), rfl, ?_, gI_y ⟨rfl, rfl⟩, (okR.s _ _).trans (okR.s _ _)⟩
      unfold s_X4_readNumber_4
      rw [if_pos (show (2 : Int32) ≤ nI (0 + 1 + 1) by decide)]
    · rw [if_neg d2, if_neg d2]
      exact ⟨_, _, _, rfl, rfl, gI_y ⟨rfl, rfl⟩, okR.s _ _⟩
  · exact Or.inl ⟨by rw [if_neg d1], by rw [if_neg d1]⟩
theorem m_isDigit (h : TXM m tx len) (e : gI m 0 14 = nI p) (hp : p ≤ len) : f_X12_isDigit m = some (if dgt (sg tx len p) then 1 else 0) := by
  have hle : sg tx len p ≤ 200 := sg_200 fun k hk => (h.2.2 k hk).2
  have e1 : (48 : Int32).toInt = 48 := rfl
  have e2 : (57 : Int32).toInt = 57 := rfl
  unfold f_X12_isDigit
  have key : ((48 : Int32).toInt ≤ (sv (sg tx len p)).toInt ∧ (sv (sg tx len p)).toInt ≤ (57 : Int32).toInt) ↔ dgt (sg tx len p) := by
    rw [sv_toInt hle, e1, e2]
    unfold dgt
    split <;> omega
  rw [m_next h e hp, bd_s, m_in, bd_s]
  by_cases q : dgt (sg tx len p)
  · simp only [if_pos q, if_pos (key.mpr q)]
    rw [if_pos (by decide)]
  · simp only [if_neg q, if_neg (fun z => q (key.mp z))]
    rw [if_pos (by decide)]
theorem m_digit (h : TXM m tx len) (e : gI m 0 14 = nI p) (hp : p ≤ len) {i : Nat} (hi : i < 2) (F : Int32 → gMem → Option (Int32 × gMem)) : s_X12_takesNumber_16 F (nI i) m = if dgt (sg tx len p) then F (nI (i + 1)) (gsI (gsI m 0 15 ((10 : Int32) * gI m 0 15 + nI (sg tx len p) - 48)) 0 14 (nI (p + 1))) else some (1, m) := by
  unfold s_X12_takesNumber_16
  rw [if_neg (show ¬ (2 : Int32) ≤ nI i from nI_ge (b := 2) hi (by decide)), m_isDigit h e hp, bd_s]
  by_cases q : dgt (sg tx len p)
  · have q' := q
    unfold dgt at q'
    rw [if_pos q, if_neg (by decide), m_next h e hp, bd_s, lt1_s, if_pos q, sv, if_neg (show ¬ sg tx len p = 200 by omega), gI_n (by omega), e, nI_1, lt1_s, lt1_s]
    rw [nI_1]
  · rw [if_neg q, if_pos rfl, if_neg q]
theorem m_number (h : TXM m tx len) (e : gI m 0 14 = nI p) (hp : p ≤ len) : (rdN tx len p = none ∧ f_X12_takesNumber m = some (0, m)) ∨ ∃ v q m', rdN tx len p = some (v, q) ∧ f_X12_takesNumber m = some (1, m') ∧ gI m' 0 14 = nI q ∧ gI m' 0 15 = nI v ∧ okA m m' := by
  have hF : ∀ y a, lq2 s_X12_takesNumber_16 1000 a y = s_X12_takesNumber_16 (lq2 s_X12_takesNumber_16 999) a y := fun y a => lq2_u ..
  unfold f_X12_takesNumber rdN
  rw [m_isDigit h e hp, bd_s]
  by_cases d1 : dgt (sg tx len p)
  · refine Or.inr ?_
    have d1' := d1
    unfold dgt at d1'
    have hlt : p < len := by
      unfold sg at d1'
      split at d1' <;> omega
    have a1 := okA.s m 15 (nI 0) (Or.inr rfl)
    have z0 : (10 : Int32) * gI (gsI m 0 15 (nI 0)) 0 15 + nI (sg tx len p) - 48 = nI (sg tx len p - 48) := by
      rw [gI_y ⟨rfl, rfl⟩, dg3 0 (by decide) _ (by omega) (by omega), Nat.mul_zero, Nat.zero_add]
    have a2 := (a1.trans (okA.s _ 15 (nI (sg tx len p - 48)) (Or.inr rfl))).trans (okA.s _ 14 (nI (p + 1)) (Or.inl rfl))
    rw [if_pos d1, if_pos d1, if_neg (show ¬ (1 : Int32) = 0 by decide), li0, lt1_s, hF, m_digit (h.fr a1) (by rw [gI_n (by omega)]; exact e) hp (by decide), if_pos d1, z0, show (999 : Nat) = 998 + 1 from rfl, lq2_u, m_digit (h.fr a2) (gI_y ⟨rfl, rfl⟩) (by omega) (by decide)]
    have z1 : gI (gsI (gsI (gsI m 0 15 (nI 0)) 0 15 (nI (sg tx len p - 48))) 0 14 (nI (p + 1))) 0 15 = nI (sg tx len p - 48) := by rw [gI_n (by omega), gI_y ⟨rfl, rfl⟩]
    by_cases d2 : dgt (sg tx len (p + 1))
    · have d2' := d2
      unfold dgt at d2'
      rw [if_pos d2, if_pos d2, z1, dg3 _ (by omega) _ (by omega) (by omega), show (998 : Nat) = 997 + 1 from rfl, lq2_u]
      generalize lq2 s_X12_takesNumber_16 997 = F
      refine ⟨_, _, gsI (gsI (gsI (gsI (gsI m 0 15 (nI 0)) 0 15 (nI (sg tx len p - 48))) 0 14 (nI (p + 1))) 0 15 (nI (10 * (sg tx len p - 48) + (sg tx len (p + 1) - 48)))) 0 14 (nI (p + 1 + 1)), rfl, ?_, gI_y ⟨rfl, rfl⟩, ?_, (a2.trans (okA.s _ 15 _ (Or.inr rfl))).trans (okA.s _ 14 _ (Or.inl rfl))⟩
      · unfold s_X12_takesNumber_16
        rw [if_pos (show (2 : Int32) ≤ nI (0 + 1 + 1) by decide)]
      · rw [gI_n (by omega), gI_y ⟨rfl, rfl⟩]
    · rw [if_neg d2, if_neg d2]
      exact ⟨_, _, _, rfl, rfl, gI_y ⟨rfl, rfl⟩, z1, a2⟩
  · exact Or.inl ⟨by rw [if_neg d1], by rw [if_neg d1, if_pos rfl]⟩
end N1

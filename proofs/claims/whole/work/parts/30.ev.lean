/-! numbers, programs of a CLAUSE and what they answer -/
theorem ixN {n : Nat} (h : n < 2 ^ 31) : ix (nI n) = n := nI_clamp h
theorem okN {k n : Nat} (h : k < n) (hn : n < 2 ^ 31) : okI (nI k) n := by
  have := nI_toInt (n := k) (by omega)
  exact ⟨by omega, by omega⟩
theorem okN_iff {k n : Nat} (hk : k < 2 ^ 31) : okI (nI k) n ↔ k < n := by
  have := nI_toInt (n := k) hk
  constructor
  · intro h; have := h.2; omega
  · intro h; exact ⟨by omega, by omega⟩
def rg (z : Int32) (B : Nat) : Prop := ∃ n : Nat, n ≤ B ∧ z = nI n
theorem nI_of_lit (n : Nat) : (OfNat.ofNat n : Int32) = nI n := rfl
theorem nI_inj {a b : Nat} (ha : a < 2 ^ 31) (hb : b < 2 ^ 31) (h : nI a = nI b) : a = b := (nI_eq ha hb).mp h
theorem rem_nI {a d : Nat} (ha : a < 2 ^ 31) (h0 : 0 < d) (hd : d < 2 ^ 31) : nI a - nI a / nI d * nI d = nI (a % d) := pk_rem ha h0 hd
theorem nI_sub0 {a b : Nat} (h : b ≤ a) : nI a - nI b = nI (a - b) := pk_sub h
theorem lN_andc (a b : Nat) : lN a &&& lN b = lN (a &&& b) := by
  apply Int64.toBitVec_inj.1
  show BitVec.ofNat 64 a &&& BitVec.ofNat 64 b = BitVec.ofNat 64 (a &&& b)
  apply BitVec.eq_of_getLsbD_eq
  intro i hi
  simp [hi]
theorem lN_orc (a b : Nat) : lN a ||| lN b = lN (a ||| b) := by
  apply Int64.toBitVec_inj.1
  show BitVec.ofNat 64 a ||| BitVec.ofNat 64 b = BitVec.ofNat 64 (a ||| b)
  apply BitVec.eq_of_getLsbD_eq
  intro i hi
  simp [hi]
theorem lN_xorc (a b : Nat) : lN a ^^^ lN b = lN (a ^^^ b) := by
  apply Int64.toBitVec_inj.1
  show BitVec.ofNat 64 a ^^^ BitVec.ofNat 64 b = BitVec.ofNat 64 (a ^^^ b)
  apply BitVec.eq_of_getLsbD_eq
  intro i hi
  simp [hi]
theorem lN_toI {a : Nat} (h : a < 2 ^ 63) : (lN a).toInt = (a : Int) := pk_lT h
theorem lN_shr1 {a : Nat} (h : a < 2 ^ 62) : lN a >>> ((1 : Int32).toInt64 &&& 63) = lN (a / 2) := by
  apply Int64.toInt_inj.mp
  have e : (lN a >>> ((1 : Int32).toInt64 &&& 63)).toInt = (lN a).toInt >>> 1 := by
    rw [show (1 : Nat) = (((1 : Int32).toInt64 &&& 63).toBitVec.smod 64).toNat by decide]
    exact BitVec.toInt_sshiftRight ..
  rw [e, Int.shiftRight_eq_div_pow, lN_toI (by omega), lN_toI (by omega)]
  rfl
theorem lN_shl1 (a : Nat) : lN a <<< ((1 : Int32).toInt64 &&& 63) = lN (2 * a) := by
  apply Int64.toBitVec_inj.1
  rw [Int64.toBitVec_shiftLeft]
  apply BitVec.eq_of_toNat_eq
  rw [show ((1 : Int32).toInt64 &&& 63).toBitVec.smod 64 = BitVec.ofNat 64 1 by decide]
  show (BitVec.ofNat 64 a <<< BitVec.ofNat 64 1).toNat = (BitVec.ofNat 64 (2 * a)).toNat
  rw [BitVec.shiftLeft_eq', BitVec.toNat_shiftLeft, BitVec.toNat_ofNat, BitVec.toNat_ofNat, BitVec.toNat_ofNat, Nat.shiftLeft_eq]
  show a % 2 ^ 64 * 2 ^ 1 % 2 ^ 64 = 2 * a % 2 ^ 64
  omega
/-- a sign of a CLAUSE: 0 a test (letter, relation, number), 1 not, 2 and, 3 or -/
abbrev tok : Type := Nat × (Nat × (Nat × Nat))
def tkM (t : tok) : Int32 := match t.1 with
  | 0 => nI (1000 * t.2.1 + 100 * t.2.2.1 + t.2.2.2)
  | 1 => -33
  | 2 => -38
  | _ => -124
def tkX (t : tok) : Int32 := match t.1 with
  | 0 => nI (300 * t.2.1 + 100 * t.2.2.1 + t.2.2.2)
  | 1 => -1
  | 2 => -2
  | _ => -3
def tkok (t : tok) : Prop := t.1 < 4 ∧ t.2.1 < 6 ∧ t.2.2.1 < 3 ∧ t.2.2.2 < 100
def tst (v s n : Nat) : Bool := if s = 0 then decide (v < n) else if s = 1 then decide (v = n) else decide (n < v)
def ev1 (fx : Nat → Nat) (t : tok) (st : List Bool) : List Bool := match t.1 with
  | 0 => tst (fx t.2.1) t.2.2.1 t.2.2.2 :: st
  | 1 => match st with
    | a :: r => (!a) :: r
    | [] => []
  | 2 => match st with
    | a :: b :: r => (b && a) :: r
    | r => r
  | _ => match st with
    | a :: b :: r => (b || a) :: r
    | r => r
def ev (fx : Nat → Nat) : List tok → List Bool → List Bool
  | [], st => st
  | t :: r, st => ev fx r (ev1 fx t st)
/-- how high the pile is behind it: never above B, never below what is asked -/
def hgt (B : Nat) : List tok → Nat → Option Nat
  | [], h => some h
  | t :: r, h => match t.1 with
    | 0 => if h < B then hgt B r (h + 1) else none
    | 1 => if 0 < h then hgt B r h else none
    | _ => if 1 < h then hgt B r (h - 1) else none
def enc : List Bool → Nat
  | [] => 0
  | a :: r => (if a then 1 else 0) + 2 * enc r
theorem enc_lt : ∀ st : List Bool, enc st < 2 ^ st.length
  | [] => by decide
  | a :: r => by
    have := enc_lt r
    have e : 2 ^ (a :: r).length = 2 * 2 ^ r.length := by rw [List.length_cons, Nat.pow_succ]; omega
    rw [e, enc]
    split <;> omega
theorem ev_append (fx : Nat → Nat) : ∀ (a b : List tok) (st : List Bool), ev fx (a ++ b) st = ev fx b (ev fx a st)
  | [], _, _ => rfl
  | t :: r, b, st => ev_append fx r b (ev1 fx t st)
theorem hgt_append (B : Nat) : ∀ (a b : List tok) (h : Nat), hgt B (a ++ b) h = (hgt B a h).bind (hgt B b)
  | [], _, _ => rfl
  | t :: r, b, h => by
    obtain ⟨k, q⟩ := t
    match k with
    | 0 => simp only [List.cons_append, hgt]; split <;> first | exact hgt_append B r b _ | rfl
    | 1 => simp only [List.cons_append, hgt]; split <;> first | exact hgt_append B r b _ | rfl
    | k + 2 => simp only [List.cons_append, hgt]; split <;> first | exact hgt_append B r b _ | rfl
/-- the pile's height -/
theorem ev_len (fx : Nat → Nat) (B : Nat) : ∀ (p : List tok) (st : List Bool) (k : Nat), hgt B p st.length = some k → (ev fx p st).length = k
  | [], st, k, h => by cases h; rfl
  | t :: r, st, k, h => by
    obtain ⟨z, q⟩ := t
    match z with
    | 0 =>
      simp only [hgt] at h
      split at h
      · exact ev_len fx B r _ k (by simpa [ev1] using h)
      · cases h
    | 1 =>
      simp only [hgt] at h
      split at h
      · rename_i h0
        cases st with
        | nil => cases h0
        | cons a s => exact ev_len fx B r _ k (by simpa [ev1] using h)
      · cases h
    | z + 2 =>
      simp only [hgt] at h
      split at h
      · rename_i h0
        cases st with
        | nil => cases h0
        | cons a s =>
          cases s with
          | nil => simp at h0
          | cons b s =>
            refine ev_len fx B r _ k ?_
            have : (ev1 fx (z + 2, q) (a :: b :: s)).length = (a :: b :: s).length - 1 := by
              match z with
              | 0 => simp [ev1]
              | z + 1 => simp [ev1]
            rw [this]; exact h
      · cases h
theorem enc_mask (k : Nat) (hk : k < 2 ^ 62) (b : Nat) (hb : b < 2) : lN (2 * k + b) &&& (-2 : Int64) = lN (2 * k) := by
  have e : (-2 : Int64) = lN (2 ^ 64 - 2) := by decide
  rw [e, lN_andc]
  congr 1
  apply Nat.eq_of_testBit_eq
  intro i
  rw [Nat.testBit_and, show 2 ^ 64 - 2 = 2 ^ 64 - (1 + 1) by rfl, Nat.testBit_two_pow_sub_succ (by decide)]
  cases i with
  | zero =>
    have e0 : (2 * k).testBit 0 = false := by simp
    rw [e0]; simp
  | succ i =>
    have h1 : (2 * k + b).testBit (i + 1) = k.testBit i := by
      rw [Nat.testBit_succ]; congr 1; omega
    have h2 : (2 * k).testBit (i + 1) = k.testBit i := by
      rw [Nat.testBit_succ]; congr 1; omega
    rw [h1, h2]
    have h3 : Nat.testBit 1 (i + 1) = false := by rw [Nat.testBit_succ]; simp
    rw [h3]
    by_cases hi : i + 1 < 64
    · simp [hi]
    · have : k.testBit i = false := Nat.testBit_lt_two_pow (Nat.lt_of_lt_of_le hk (Nat.pow_le_pow_right (by decide) (by omega)))
      simp [this]

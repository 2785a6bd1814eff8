/-! THE TEXT: what it says, between the two readers -/
/-- signs and tokens of the two levels: 0 either, 1 both -/
def opS (k : Nat) : Nat := if k = 0 then 124 else 38
def opT (k : Nat) : tok := (if k = 0 then 3 else 2, (0, (0, 0)))
def notT : tok := (1, (0, (0, 0)))
/-- 0 either, 1 both, 2 factor; 3 and 4 the rest of either and both -/
def PRc (tx : Nat → Nat) (len : Nat) (M : Nat → Nat → Nat → Option (List tok) → Nat → Prop) : Prop :=
  (∀ k d p q, k < 2 → M (k + 1) d p none q → M k d p none q) ∧
  (∀ k d p q l r s, k < 2 → M (k + 1) d p (some l) q → M (k + 3) d q r s → M k d p (r.map (fun z => l ++ z)) s) ∧
  (∀ k d p, k < 2 → sg tx len p ≠ opS k → M (k + 3) d p (some []) p) ∧
  (∀ k d p q, k < 2 → sg tx len p = opS k → M (k + 1) d (p + 1) none q → M (k + 3) d p none q) ∧
  (∀ k d p q l r s, k < 2 → sg tx len p = opS k → M (k + 1) d (p + 1) (some l) q → M (k + 3) d q r s → M (k + 3) d p (r.map (fun z => l ++ opT k :: z)) s) ∧
  (∀ d p, sg tx len p ≠ 33 → sg tx len p ≠ 40 → (rdT tx len p).1 = none → M 2 d p none (rdT tx len p).2) ∧
  (∀ d p f rl v q, sg tx len p ≠ 33 → sg tx len p ≠ 40 → rdT tx len p = (some (f, rl, v), q) → M 2 d p (some [(0, (f, (rl, v)))]) q) ∧
  (∀ p, sg tx len p = 33 ∨ sg tx len p = 40 → M 2 4 p none p) ∧
  (∀ d p q, sg tx len p = 40 → d < 4 → M 0 (d + 1) (p + 1) none q → M 2 d p none q) ∧
  (∀ d p q l, sg tx len p = 40 → d < 4 → M 0 (d + 1) (p + 1) (some l) q → sg tx len q ≠ 38 → sg tx len q ≠ 124 → sg tx len q ≠ 41 → M 2 d p none q) ∧
  (∀ d p q l, sg tx len p = 40 → d < 4 → M 0 (d + 1) (p + 1) (some l) q → sg tx len q = 41 → M 2 d p (some l) (q + 1)) ∧
  (∀ d p q, sg tx len p = 33 → d < 4 → M 2 (d + 1) (p + 1) none q → M 2 d p none q) ∧
  (∀ d p q l, sg tx len p = 33 → d < 4 → M 2 (d + 1) (p + 1) (some l) q → M 2 d p (some (l ++ [notT])) q)
def PR (tx : Nat → Nat) (len k d p : Nat) (r : Option (List tok)) (q : Nat) : Prop := ∀ M, PRc tx len M → M k d p r q
section P1
variable {tx : Nat → Nat} {len : Nat}
theorem PR_c : PRc tx len (PR tx len) :=
  ⟨fun k d p q a h M c => c.1 k d p q a (h M c),
   fun k d p q l r s a h g M c => c.2.1 k d p q l r s a (h M c) (g M c),
   fun k d p a h M c => c.2.2.1 k d p a h,
   fun k d p q a e h M c => c.2.2.2.1 k d p q a e (h M c),
   fun k d p q l r s a e h g M c => c.2.2.2.2.1 k d p q l r s a e (h M c) (g M c),
   fun d p a b h M c => c.2.2.2.2.2.1 d p a b h,
   fun d p f rl v q a b h M c => c.2.2.2.2.2.2.1 d p f rl v q a b h,
   fun p a M c => c.2.2.2.2.2.2.2.1 p a,
   fun d p q a b h M c => c.2.2.2.2.2.2.2.2.1 d p q a b (h M c),
   fun d p q l a b h e1 e2 e M c => c.2.2.2.2.2.2.2.2.2.1 d p q l a b (h M c) e1 e2 e,
   fun d p q l a b h e M c => c.2.2.2.2.2.2.2.2.2.2.1 d p q l a b (h M c) e,
   fun d p q a b h M c => c.2.2.2.2.2.2.2.2.2.2.2.1 d p q a b (h M c),
   fun d p q l a b h M c => c.2.2.2.2.2.2.2.2.2.2.2.2 d p q l a b (h M c)⟩
theorem rdT_in {p : Nat} (hp : p ≤ len) : p ≤ (rdT tx len p).2 ∧ (rdT tx len p).2 ≤ len ∧ ∀ f rl v, (rdT tx len p).1 = some (f, rl, v) → p < (rdT tx len p).2 ∧ f < 6 ∧ rl < 3 ∧ v < 100 := by
  have h6 := plc_le (sg tx len p)
  have h3 := rlc_le (sg tx len (p + 1))
  unfold rdT
  by_cases c6 : plc (sg tx len p) = 6
  · rw [if_pos c6]
    exact ⟨Nat.le_refl _, hp, fun _ _ _ h => by cases h⟩
  have l1 := plc_lt c6
  rw [if_neg c6]
  by_cases c3 : rlc (sg tx len (p + 1)) = 3
  · rw [if_pos c3]
    exact ⟨Nat.le_succ _, l1, fun _ _ _ h => by cases h⟩
  have l2 := rlc_lt c3
  rw [if_neg c3]
  cases hn : rdN tx len (p + 2) with
  | none => exact ⟨by dsimp only; omega, l2, fun _ _ _ h => by cases h⟩
  | some z =>
    obtain ⟨v, q⟩ := z
    have := rdN_le hn
    refine ⟨by dsimp only; omega, by dsimp only; omega, fun f rl w h => ?_⟩
    cases h
    dsimp only
    omega
/-- where it stops, and how long it is -/
theorem PR_in {k d p q : Nat} {r : Option (List tok)} (h : PR tx len k d p r q) : p ≤ len → p ≤ q ∧ q ≤ len ∧ ∀ l, r = some l → l.length + p ≤ q := by
  refine h (fun k d p r q => p ≤ len → p ≤ q ∧ q ≤ len ∧ ∀ l, r = some l → l.length + p ≤ q) ⟨?_, ?_, ?_, ?_, ?_, ?_, ?_, ?_, ?_, ?_, ?_, ?_, ?_⟩
  · intro k d p q _ h1 hp
    exact ⟨(h1 hp).1, (h1 hp).2.1, fun _ z => by cases z⟩
  · intro k d p q l r s _ h1 h2 hp
    obtain ⟨a1, a2, a3⟩ := h1 hp
    obtain ⟨b1, b2, b3⟩ := h2 a2
    have a4 := a3 l rfl
    refine ⟨by omega, b2, fun z hz => ?_⟩
    cases r with
    | none => cases hz
    | some y => cases hz; have := b3 y rfl; rw [List.length_append]; omega
  · intro k d p _ _ hp
    exact ⟨Nat.le_refl _, hp, fun _ z => by cases z; show 0 + p ≤ p; omega⟩
  · intro k d p q hk e h1 hp
    have hlt := sg_in (c := opS k) e (by unfold opS; split <;> decide)
    have := h1 hlt
    exact ⟨by omega, this.2.1, fun _ z => by cases z⟩
  · intro k d p q l r s hk e h1 h2 hp
    have hlt := sg_in (c := opS k) e (by unfold opS; split <;> decide)
    obtain ⟨a1, a2, a3⟩ := h1 hlt
    obtain ⟨b1, b2, b3⟩ := h2 a2
    have a4 := a3 l rfl
    refine ⟨by omega, b2, fun z hz => ?_⟩
    cases r with
    | none => cases hz
    | some y => cases hz; have := b3 y rfl; rw [List.length_append, List.length_cons]; omega
  · intro d p _ _ e hp
    have := rdT_in (tx := tx) hp
    exact ⟨this.1, this.2.1, fun _ z => by cases z⟩
  · intro d p f rl v q _ _ e hp
    have := rdT_in (tx := tx) hp
    have h2 := this.2.2 f rl v (by rw [e])
    rw [e] at this h2
    refine ⟨this.1, this.2.1, fun _ z => ?_⟩
    cases z
    show 1 + p ≤ q
    have := h2.1
    dsimp only at this
    omega
  · intro p _ hp
    exact ⟨Nat.le_refl _, hp, fun _ z => by cases z⟩
  · intro d p q e _ h1 hp
    have hlt := sg_in e (by decide)
    have := h1 hlt
    exact ⟨by omega, this.2.1, fun _ z => by cases z⟩
  · intro d p q l e _ h1 _ _ _ hp
    have hlt := sg_in e (by decide)
    have := h1 hlt
    exact ⟨by omega, this.2.1, fun _ z => by cases z⟩
  · intro d p q l e _ h1 e2 hp
    have hlt := sg_in e (by decide)
    have hl2 := sg_in e2 (by decide)
    have := h1 hlt
    have h3 := this.2.2 l rfl
    exact ⟨by omega, hl2, fun _ z => by cases z; omega⟩
  · intro d p q e _ h1 hp
    have hlt := sg_in e (by decide)
    have := h1 hlt
    exact ⟨by omega, this.2.1, fun _ z => by cases z⟩
  · intro d p q l e _ h1 hp
    have hlt := sg_in e (by decide)
    have := h1 hlt
    have h3 := this.2.2 l rfl
    refine ⟨by omega, this.2.1, fun _ z => ?_⟩
    cases z
    rw [List.length_append]
    show l.length + 1 + p ≤ q
    omega
/-- what stands behind it -/
theorem PR_nx {k d p q : Nat} {r : Option (List tok)} (h : PR tx len k d p r q) : ∀ l, r = some l → (k = 0 → sg tx len q ≠ 124 ∧ sg tx len q ≠ 38) ∧ (k = 1 → sg tx len q ≠ 38) ∧ (k = 3 → sg tx len q ≠ 124 ∧ (sg tx len p ≠ 38 → sg tx len q ≠ 38)) ∧ (k = 4 → sg tx len q ≠ 38) := by
  refine h (fun k d p r q => ∀ l, r = some l → (k = 0 → sg tx len q ≠ 124 ∧ sg tx len q ≠ 38) ∧ (k = 1 → sg tx len q ≠ 38) ∧ (k = 3 → sg tx len q ≠ 124 ∧ (sg tx len p ≠ 38 → sg tx len q ≠ 38)) ∧ (k = 4 → sg tx len q ≠ 38)) ⟨?_, ?_, ?_, ?_, ?_, ?_, ?_, ?_, ?_, ?_, ?_, ?_, ?_⟩
  · intro k d p q _ h1 l z; cases z
  · intro k d p q l r s hk h1 h2 y hy
    cases r with
    | none => cases hy
    | some z =>
      have a := h1 l rfl
      have b := h2 z rfl
      exact ⟨fun e => ⟨(b.2.2.1 (by omega)).1, (b.2.2.1 (by omega)).2 (a.2.1 (by omega))⟩, fun e => b.2.2.2 (by omega), fun e => by omega, fun e => by omega⟩
  · intro k d p hk e l z
    refine ⟨fun a => by omega, fun a => by omega, fun a => ⟨?_, fun b => b⟩, fun a => ?_⟩
    · obtain rfl : k = 0 := by omega
      exact e
    · obtain rfl : k = 1 := by omega
      exact e
  · intro k d p q hk e h1 l z; cases z
  · intro k d p q l r s hk e h1 h2 y hy
    cases r with
    | none => cases hy
    | some z =>
      have a := h1 l rfl
      have b := h2 z rfl
      exact ⟨fun e => by omega, fun e => by omega, fun e => ⟨(b.2.2.1 (by omega)).1, fun _ => (b.2.2.1 (by omega)).2 (a.2.1 (by omega))⟩, fun e => b.2.2.2 (by omega)⟩
  · intro d p _ _ e l z; cases z
  · intro d p f rl v q _ _ e l z
    exact ⟨fun a => by omega, fun a => by omega, fun a => by omega, fun a => by omega⟩
  · intro p _ l z; cases z
  · intro d p q e _ h1 l z; cases z
  · intro d p q l e _ h1 _ _ _ y z; cases z
  · intro d p q l e _ h1 e2 y z
    exact ⟨fun a => by omega, fun a => by omega, fun a => by omega, fun a => by omega⟩
  · intro d p q e _ h1 l z; cases z
  · intro d p q l e _ h1 y z
    exact ⟨fun a => by omega, fun a => by omega, fun a => by omega, fun a => by omega⟩
end P1

/-! THE TEXT: its tokens and its height -/
section P2
variable {tx : Nat → Nat} {len : Nat}
theorem PR_ok {k d p q : Nat} {r : Option (List tok)} (h : PR tx len k d p r q) : ∀ l, r = some l → ∀ t ∈ l, tkok t := by
  have ot : ∀ k, tkok (opT k) := fun k => by unfold opT tkok; split <;> decide
  refine h (fun k d p r q => ∀ l, r = some l → ∀ t ∈ l, tkok t) ⟨?_, ?_, ?_, ?_, ?_, ?_, ?_, ?_, ?_, ?_, ?_, ?_, ?_⟩
  · intro k d p q _ h1 l z; cases z
  · intro k d p q l r s _ h1 h2 y hy
    cases r with
    | none => cases hy
    | some z =>
      cases hy
      intro t ht
      rcases List.mem_append.mp ht with a | a
      · exact h1 l rfl t a
      · exact h2 z rfl t a
  · intro k d p _ _ l z; cases z; intro t ht; cases ht
  · intro k d p q hk e h1 l z; cases z
  · intro k d p q l r s hk e h1 h2 y hy
    cases r with
    | none => cases hy
    | some z =>
      cases hy
      intro t ht
      rcases List.mem_append.mp ht with a | a
      · exact h1 l rfl t a
      · rcases List.mem_cons.mp a with b | b
        · rw [b]; exact ot k
        · exact h2 z rfl t b
  · intro d p _ _ e l z; cases z
  · intro d p f rl v q _ _ e l z
    cases z
    intro t ht
    rw [List.mem_singleton.mp ht]
    have hp : p ≤ len := by
      apply Nat.le_of_lt
      apply plc_lt (tx := tx)
      intro c6
      unfold rdT at e
      rw [if_pos c6] at e
      cases e
    have := (rdT_in (tx := tx) hp).2.2 f rl v (by rw [e])
    exact ⟨(by decide : (0 : Nat) < 4), this.2.1, this.2.2.1, this.2.2.2⟩
  · intro p _ l z; cases z
  · intro d p q e _ h1 l z; cases z
  · intro d p q l e _ h1 _ _ _ y z; cases z
  · intro d p q l e _ h1 e2 y z; cases z; exact h1 l rfl
  · intro d p q e _ h1 l z; cases z
  · intro d p q l e _ h1 y z
    cases z
    intro t ht
    rcases List.mem_append.mp ht with a | a
    · exact h1 l rfl t a
    · rw [List.mem_singleton.mp a]; exact ⟨by decide, by decide, by decide, by decide⟩
theorem hgt_op (k : Nat) (r : List tok) (h : Nat) (hh : 1 < h) : hgt 20 (opT k :: r) h = hgt 20 r (h - 1) := by
  unfold opT
  by_cases q : k = 0
  · rw [if_pos q]; show (if 1 < h then _ else _) = _; rw [if_pos hh]
  · rw [if_neg q]; show (if 1 < h then _ else _) = _; rw [if_pos hh]
theorem PR_hgt {k d p q : Nat} {r : Option (List tok)} (h : PR tx len k d p r q) : d ≤ 4 → ∀ l, r = some l → (k < 3 → ∀ h rest, h + (11 - 2 * d - k) ≤ 20 → hgt 20 (l ++ rest) h = hgt 20 rest (h + 1)) ∧ (3 ≤ k → ∀ h rest, 0 < h → h + (11 - 2 * d - (k - 2)) ≤ 20 → hgt 20 (l ++ rest) h = hgt 20 rest h) := by
  refine h (fun k d p r q => d ≤ 4 → ∀ l, r = some l → (k < 3 → ∀ h rest, h + (11 - 2 * d - k) ≤ 20 → hgt 20 (l ++ rest) h = hgt 20 rest (h + 1)) ∧ (3 ≤ k → ∀ h rest, 0 < h → h + (11 - 2 * d - (k - 2)) ≤ 20 → hgt 20 (l ++ rest) h = hgt 20 rest h)) ⟨?_, ?_, ?_, ?_, ?_, ?_, ?_, ?_, ?_, ?_, ?_, ?_, ?_⟩
  · intro k d p q _ h1 _ l z; cases z
  · intro k d p q l r s hk h1 h2 hd y hy
    cases r with
    | none => cases hy
    | some z =>
      cases hy
      refine ⟨fun _ h rest hh => ?_, fun a => by omega⟩
      rw [List.append_assoc, (h1 hd l rfl).1 (by omega) h (z ++ rest) (by omega), (h2 hd z rfl).2 (by omega) (h + 1) rest (by omega) (by omega)]
  · intro k d p _ _ _ l z; cases z; exact ⟨fun a => by omega, fun _ _ _ _ _ => rfl⟩
  · intro k d p q hk e h1 _ l z; cases z
  · intro k d p q l r s hk e h1 h2 hd y hy
    cases r with
    | none => cases hy
    | some z =>
      cases hy
      refine ⟨fun a => by omega, fun _ h rest h0 hh => ?_⟩
      rw [List.append_assoc, (h1 hd l rfl).1 (by omega) h _ (by omega), List.cons_append, hgt_op k _ _ (by omega), Nat.add_sub_cancel, (h2 hd z rfl).2 (by omega) h rest h0 hh]
  · intro d p _ _ e _ l z; cases z
  · intro d p f rl v q _ _ e hd l z
    cases z
    refine ⟨fun _ h rest hh => ?_, fun a => by omega⟩
    show (if h < 20 then _ else _) = _
    rw [if_pos (by omega)]
    rfl
  · intro p _ _ l z; cases z
  · intro d p q e _ h1 _ l z; cases z
  · intro d p q l e _ h1 _ _ _ _ y z; cases z
  · intro d p q l e _ h1 e2 hd y z
    cases z
    refine ⟨fun _ h rest hh => ?_, fun a => by omega⟩
    exact (h1 (by omega) l rfl).1 (by decide) h rest (by omega)
  · intro d p q e _ h1 _ l z; cases z
  · intro d p q l e _ h1 hd y z
    cases z
    refine ⟨fun _ h rest hh => ?_, fun a => by omega⟩
    rw [List.append_assoc, (h1 (by omega) l rfl).1 (by decide) h _ (by omega)]
    show (if 0 < h + 1 then hgt 20 rest (h + 1) else none) = _
    rw [if_pos (by omega)]
end P2

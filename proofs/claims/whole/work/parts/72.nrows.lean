/-! A NIGHT grows by a CLAUSE -/
def ntE (x m : gMem) (g i st : Nat) (c : cls) : Prop := gI x (60 + 5 * g + 1) i = nI c.1 ∧ gI m 8 (10 * g + i) = nI c.1 ∧ gI x (60 + 5 * g + 2) i = nI c.2.1 ∧ gI m 9 (10 * g + i) = nI c.2.1 ∧ gI x (60 + 5 * g + 3) i = nI (st + c.2.2.length) ∧ gI m 10 (10 * g + i) = nI (100 * g + st) ∧ gI m 11 (10 * g + i) = nI (100 * g + st + c.2.2.length) ∧ clsOk c ∧ ∀ j (hj : j < c.2.2.length), gI x (60 + 5 * g + 4) (st + j) = tkX c.2.2[j] ∧ gI m 12 (100 * g + st + j) = tkM c.2.2[j]
theorem nOK_c {x m : gMem} {g i st : Nat} {c : cls} {r : List cls} : nOK x m g i st (c :: r) = (ntE x m g i st c ∧ nOK x m g (i + 1) (st + c.2.2.length) r) := rfl
theorem clen_app : ∀ (P : List cls) (c : cls), clen (P ++ [c]) = clen P + c.2.2.length
  | [], c => by show c.2.2.length + 0 = 0 + c.2.2.length; omega
  | d :: r, c => by
    show d.2.2.length + clen (r ++ [c]) = d.2.2.length + clen r + c.2.2.length
    rw [clen_app r c]; omega
section G1
variable {x m x' m' : gMem} {g : Nat}
theorem nOK.up : ∀ (P : List cls) (i st : Nat), nOK x m g i st P → (∀ o k, 60 + 5 * g + 1 ≤ o → o ≤ 60 + 5 * g + 3 → k < i + P.length → gI x' o k = gI x o k) → (∀ k, k < st + clen P → gI x' (60 + 5 * g + 4) k = gI x (60 + 5 * g + 4) k) → (∀ o k, 8 ≤ o → o ≤ 11 → k < 10 * g + i + P.length → gI m' o k = gI m o k) → (∀ k, k < 100 * g + st + clen P → gI m' 12 k = gI m 12 k) → nOK x' m' g i st P
  | [], _, _, _, _, _, _, _ => trivial
  | c :: r, i, st, h, h1, h2, h3, h4 => by
    rw [nOK_c] at h ⊢
    have e1 : (c :: r).length = r.length + 1 := rfl
    have e2 : clen (c :: r) = c.2.2.length + clen r := rfl
    rw [e1] at h1 h3
    rw [e2] at h2 h4
    refine ⟨?_, nOK.up r (i + 1) _ h.2 (fun o k a b d => h1 o k a b (by omega)) (fun k a => h2 k (by omega)) (fun o k a b d => h3 o k a b (by omega)) (fun k a => h4 k (by omega))⟩
    obtain ⟨a1, a2, a3, a4, a5, a6, a7, a8, a9⟩ := h.1
    refine ⟨(h1 _ _ (by omega) (by omega) (by omega)).trans a1, (h3 _ _ (by omega) (by omega) (by omega)).trans a2, (h1 _ _ (by omega) (by omega) (by omega)).trans a3, (h3 _ _ (by omega) (by omega) (by omega)).trans a4, (h1 _ _ (by omega) (by omega) (by omega)).trans a5, (h3 _ _ (by omega) (by omega) (by omega)).trans a6, (h3 _ _ (by omega) (by omega) (by omega)).trans a7, a8, fun j hj => ?_⟩
    exact ⟨(h2 _ (by omega)).trans (a9 j hj).1, (h4 _ (by omega)).trans (a9 j hj).2⟩
theorem nOK.app : ∀ (P : List cls) (i st : Nat) {c : cls}, nOK x m g i st P → ntE x m g (i + P.length) (st + clen P) c → nOK x m g i st (P ++ [c])
  | [], i, st, c, _, h => ⟨h, trivial⟩
  | d :: r, i, st, c, h, h2 => by
    rw [List.cons_append]
    rw [nOK_c] at h ⊢
    refine ⟨h.1, nOK.app r (i + 1) _ h.2 ?_⟩
    have e1 : i + (d :: r).length = i + 1 + r.length := by show i + (r.length + 1) = _; omega
    have e2 : st + clen (d :: r) = st + d.2.2.length + clen r := by show st + (d.2.2.length + clen r) = _; omega
    rw [e1, e2] at h2
    exact h2
theorem CX.entry {tx : Nat → Nat} {len i st w v p2 q : Nat} {l : List tok} (hw : w < 3) (hv : v < 100) (h1 : gI x (60 + 5 * g + 1) i = nI w) (h2 : gI m 8 (10 * g + i) = nI w) (h3 : gI x (60 + 5 * g + 2) i = nI v) (h4 : gI m 9 (10 * g + i) = nI v) (h5 : gI x (60 + 5 * g + 3) i = nI (st + l.length)) (h6 : gI m 10 (10 * g + i) = nI (100 * g + st)) (h7 : gI m 11 (10 * g + i) = nI (100 * g + st + l.length)) (hX : CX (gI x (60 + 5 * g + 4)) tkX st l) (hM : CX (gI m 12) tkM (100 * g + st) l) (hp : PR tx len 0 0 p2 (some l) q) : ntE x m g i st (w, (v, l)) := by
  have hh := ((PR_hgt hp (by decide) l rfl).1 (by decide) 0 [] (by decide))
  rw [List.append_nil] at hh
  exact ⟨h1, h2, h3, h4, h5, h6, h7, ⟨hw, hv, PR_ok hp l rfl, hh⟩, fun j hj => ⟨hX.get j hj, hM.get j hj⟩⟩
end G1

/-! THE TEXT: the class's reader, whole -/
section X2
variable {L : List Nat} {tx : Nat → Nat} {len g : Nat}
theorem x_factor {d : Nat} {rec rec' : Nat → gMem → Int32 → Option (Int32 × gMem)} (hd : d ≤ 4) (hg : isN g) (hg6 : 60 ≤ g) (hN : d < 4 → ∀ m, rec 3 m (nI (d + 1)) = b_X4_readNot L rec' m (nI (d + 1))) (hG : d < 4 → ∀ m, rec 4 m (nI (d + 1)) = b_X4_readGroup L rec' m (nI (d + 1))) (h0 : d < 4 → XP tx len g 0 (d + 1) (fun m => rec' 0 m (nI (d + 1)))) (h2 : d < 4 → XP tx len g 2 (d + 1) (fun m => rec' 2 m (nI (d + 1)))) : XP tx len g 2 d (fun m => b_X4_readFactor L rec m (nI d)) := by
  intro x p n h3 h4 h5 h6 h7 h8
  have hle : sg tx len p ≤ 200 := sg_200 fun k hk => (h3.2.2 k hk).2
  have hl := h3.2.1
  have a1 := okR.s x (nI (p + 1))
  have b1 := (a1.toG (g := g))
  have i1 : ∀ v : Int32, gI (gsI x 30 2 v) g 5 = nI n := fun v => by rw [gI_n (by omega)]; exact h7
  have e33 : (sv (sg tx len p) = (33 : Int32)) = (sg tx len p = 33) := sv_eq hle (by decide)
  have e40 : (sv (sg tx len p) = (40 : Int32)) = (sg tx len p = 40) := sv_eq hle (by decide)
  show (∃ q x' n', PR tx len 2 d p none q ∧ b_X4_readFactor L rec x (nI d) = _ ∧ _) ∨ (∃ l q x', PR tx len 2 d p (some l) q ∧ b_X4_readFactor L rec x (nI d) = _ ∧ _)
  unfold b_X4_readFactor
  rw [x_sign h3 h4 h5, bd_s]
  by_cases c40 : sg tx len p = 40
  · have hlt := sg_in c40 (by decide)
    have n33 : ¬ sg tx len p = 33 := by omega
    rw [if_neg (fun z => n33 (e33.mp z)), if_pos (e40.mpr c40)]
    by_cases d4 : d < 4
    · rw [if_neg (show ¬ (4 : Int32) ≤ nI d from nI_ge (b := 4) d4 (by decide)), nI_1, hG d4, b_X4_readGroup, lt1_s, h4, nI_1]
      rcases h0 d4 _ (p + 1) n (h3.fr a1) (gI_y ⟨rfl, rfl⟩) (by omega) h6 (i1 _) (by omega) with ⟨q, x2, n2, c1, c2, c3, c4, c5, c6⟩ | ⟨l, q, x2, c1, c2, c3, c4, c5, c6, c7⟩
      · refine Or.inl ⟨q, x2, n2, PR_c.2.2.2.2.2.2.2.2.1 d p q c40 d4 c1, ?_, c3, c4, c5, b1.trans c6⟩
        rw [show rec' 0 (gsI x 30 2 (nI (p + 1))) (nI (d + 1)) = _ from c2, bd2_s, if_pos rfl, bd2_s, if_pos rfl]
      · have hin := PR_in c1 (by omega)
        have hn := hin.2.2 l rfl
        have t2 := h3.fg hg6 (b1.trans c7)
        rw [show rec' 0 (gsI x 30 2 (nI (p + 1))) (nI (d + 1)) = _ from c2, bd2_s, if_neg (show ¬ (1 : Int32) = 0 by decide), show (41 : Int32) = nI 41 from rfl, x_skip t2 c3 hin.2.1 (by decide)]
        by_cases c41 : sg tx len q = 41
        · rw [if_pos c41]
          refine Or.inr ⟨l, q + 1, _, PR_c.2.2.2.2.2.2.2.2.2.2.1 d p q l c40 d4 c1 c41, ?_, gI_y ⟨rfl, rfl⟩, ?_, ?_, ?_, (b1.trans c7).trans (okR.s x2 (nI (q + 1))).toG⟩
          · rw [bd2_s, if_neg (show ¬ (1 : Int32) = 0 by decide), bd2_s, if_neg (show ¬ (1 : Int32) = 0 by decide)]
          · rw [gI_n (by omega)]; exact c4
          · exact c5.fr (fun j a b => gI_n (by omega))
          · exact fun j hj => by rw [gI_n (by omega), c6 j hj, gI_n (by omega)]
        · rw [if_neg c41]
          refine Or.inl ⟨q, x2, n + l.length, PR_c.2.2.2.2.2.2.2.2.2.1 d p q l c40 d4 c1 ((PR_nx c1 l rfl).1 rfl).2 ((PR_nx c1 l rfl).1 rfl).1 c41, ?_, c3, c4, by omega, b1.trans c7⟩
          rw [bd2_s, if_pos rfl, bd2_s, if_pos rfl]
    · obtain rfl : d = 4 := by omega
      rw [if_pos (show (4 : Int32) ≤ nI 4 by decide)]
      exact Or.inl ⟨p, x, n, PR_c.2.2.2.2.2.2.2.1 p (Or.inr c40), rfl, h4, h7, by omega, okG.rfl⟩
  by_cases c33 : sg tx len p = 33
  · have hlt := sg_in c33 (by decide)
    rw [if_pos (e33.mpr c33)]
    by_cases d4 : d < 4
    · rw [if_neg (show ¬ (4 : Int32) ≤ nI d from nI_ge (b := 4) d4 (by decide)), nI_1, hN d4, b_X4_readNot, lt1_s, h4, nI_1]
      rcases h2 d4 _ (p + 1) n (h3.fr a1) (gI_y ⟨rfl, rfl⟩) (by omega) h6 (i1 _) (by omega) with ⟨q, x2, n2, c1, c2, c3, c4, c5, c6⟩ | ⟨l, q, x2, c1, c2, c3, c4, c5, c6, c7⟩
      · obtain ⟨x3, n3, f1, f2, f3, f4, f5⟩ := x_addAny (L := L) (c := (-1 : Int32)) c4 c5
        refine Or.inl ⟨q, x3, n3, PR_c.2.2.2.2.2.2.2.2.2.2.2.1 d p q c33 d4 c1, ?_, (f5 hg6).trans c3, f3, f2, (b1.trans c6).trans f4⟩
        rw [show rec' 2 (gsI x 30 2 (nI (p + 1))) (nI (d + 1)) = _ from c2, bd2_s, (c6.2.2 30 3).trans h6, oc_s, if_pos hg, f1, bd_s, if_pos (show isB 0 by decide), bd2_s, if_pos rfl]
      · have hin := PR_in c1 (by omega)
        have hn := hin.2.2 l rfl
        obtain ⟨x3, f1, f2, f3, f4, f5, f6, f7⟩ := x_addCode (L := L) (c := (-1 : Int32)) c4 (by omega)
        have f8 : okG g x2 x3 := ⟨fun o k _ b d => f5 o k b d, f6, f7⟩
        refine Or.inr ⟨l ++ [notT], q, x3, PR_c.2.2.2.2.2.2.2.2.2.2.2.2 d p q l c33 d4 c1, ?_, by rw [f5 _ _ (by omega) (by omega)]; exact c3, ?_, ?_, ?_, (b1.trans c7).trans f8⟩
        · rw [show rec' 2 (gsI x 30 2 (nI (p + 1))) (nI (d + 1)) = _ from c2, bd2_s, (c7.2.2 30 3).trans h6, oc_s, if_pos hg, f1, bd_s, if_pos (show isB 1 by decide), bd2_s, if_neg (show ¬ (1 : Int32) = 0 by decide)]
        · rw [f2, List.length_append]; rfl
        · exact (c5.fr (fun j a b => f4 j (by omega))).app ⟨f3, trivial⟩
        · exact fun j hj => by rw [f4 j (by omega), c6 j hj, gI_n (by omega)]
    · obtain rfl : d = 4 := by omega
      rw [if_pos (show (4 : Int32) ≤ nI 4 by decide)]
      exact Or.inl ⟨p, x, n, PR_c.2.2.2.2.2.2.2.1 p (Or.inl c33), rfl, h4, h7, by omega, okG.rfl⟩
  rw [if_neg (fun z => c33 (e33.mp z)), if_neg (fun z => c40 (e40.mp z))]
  have hr := rdT_in (tx := tx) h5
  by_cases n100 : n < 100
  · rcases x_readTest (L := L) h3 h4 h5 h6 hg hg6 h7 n100 with ⟨c1, x', c2, c3, c4⟩ | ⟨f, rl, v, q, x', c1, c2, c3, c4, c5, c6, c7⟩
    · refine Or.inl ⟨_, x', n, PR_c.2.2.2.2.2.1 d p c33 c40 c1, ?_, c3, by rw [c4.1 _ _ (by omega)]; exact h7, by omega, c4.toG⟩
      rw [c2, bd2_s, if_pos (show isB 0 by decide)]
    · refine Or.inr ⟨_, q, x', PR_c.2.2.2.2.2.2.1 d p f rl v q c33 c40 c1, ?_, c3, c4, ⟨?_, trivial⟩, fun j hj => c6 j (by omega), c7⟩
      · rw [c2, bd2_s, if_pos (show isB 1 by decide)]
      · rw [c5, Nat.mul_comm f, Nat.mul_comm rl]; rfl
  · have hs : sg tx len p = 200 := by unfold sg; rw [if_neg (by omega)]
    have hp6 : plc (sg tx len p) = 6 := by rw [hs]; rfl
    have hT : rdT tx len p = (none, p) := by unfold rdT; rw [if_pos hp6]
    refine Or.inl ⟨p, x, n, ?_, ?_, h4, h7, by omega, okG.rfl⟩
    · have := PR_c.2.2.2.2.2.1 d p c33 c40 (by rw [hT])
      rw [hT] at this
      exact this
    · unfold f_X4_readTest
      rw [x_place3 h3 h4 h5, bd_s, hp6, if_neg (show ¬ (0 : Int32) ≤ pl6 6 6 by decide), bd2_s, if_pos (show isB 0 by decide)]
theorem x_R (hg : isN g) (hg6 : 60 ≤ g) : ∀ (w n k d : Nat), n ≤ w → d ≤ 4 → k < 3 → 4 * (4 - d) + (3 - k) ≤ n → XP tx len g k d (fun m => f_R L n k m (nI d)) := by
  intro w
  induction w with
  | zero => intro n k d _ _ h2 h3; omega
  | succ w ih =>
    intro n k d hw h1 h2 h3
    obtain ⟨n, rfl⟩ : ∃ a, n = a + 1 := ⟨n - 1, by omega⟩
    by_cases k0 : k = 0
    · subst k0
      have e : (fun m => f_R L (n + 1) 0 m (nI d)) = fun m => bd2 (f_R L n (0 + 1) m (nI d)) fun (x2 : Int32) (m1 : gMem) => lq3 (s_X4_readEither_8 L (f_R L n) (nI d)) 1000 x2 (nI 0) m1 := funext fun m => by
        rw [f_R, if_pos rfl, b_X4_readEither, li0]
      rw [e]
      exact x_level (L := L) (k := 0) (S := s_X4_readEither_8 L (f_R L n) (nI d)) (fun _ _ _ _ => rfl) (by decide) hg hg6 (ih n 1 d (by omega) h1 (by decide) (by omega))
    by_cases k1 : k = 1
    · subst k1
      have e : (fun m => f_R L (n + 1) 1 m (nI d)) = fun m => bd2 (f_R L n (1 + 1) m (nI d)) fun (x2 : Int32) (m1 : gMem) => lq3 (s_X4_readBoth_8 L (f_R L n) (nI d)) 1000 x2 (nI 0) m1 := funext fun m => by
        rw [f_R, if_neg (show ¬ (1 : Nat) = 0 by decide), if_pos rfl, b_X4_readBoth, li0]
      rw [e]
      exact x_level (L := L) (k := 1) (S := s_X4_readBoth_8 L (f_R L n) (nI d)) (fun _ _ _ _ => rfl) (by decide) hg hg6 (ih n 2 d (by omega) h1 (by decide) (by omega))
    obtain rfl : k = 2 := by omega
    have e : (fun m => f_R L (n + 1) 2 m (nI d)) = fun m => b_X4_readFactor L (f_R L n) m (nI d) := funext fun m => by
      rw [f_R, if_neg (show ¬ (2 : Nat) = 0 by decide), if_neg (show ¬ (2 : Nat) = 1 by decide), if_pos rfl]
    rw [e]
    have u1 : n - 1 ≤ w := by omega
    have u2 : d < 4 → 4 * (4 - (d + 1)) + (3 - 0) ≤ n - 1 := fun _ => by omega
    have u3 : d < 4 → 4 * (4 - (d + 1)) + (3 - 2) ≤ n - 1 := fun _ => by omega
    have u4 : d < 4 → n = n - 1 + 1 := fun _ => by omega
    have n1 : d < 4 → ∃ a, n = a + 1 := fun q => ⟨n - 1, u4 q⟩
    refine x_factor (rec' := f_R L (n - 1)) h1 hg hg6 (fun q m => ?_) (fun q m => ?_) (fun q => ih (n - 1) 0 (d + 1) u1 q (by decide) (u2 q)) (fun q => ih (n - 1) 2 (d + 1) u1 q (by decide) (u3 q))
    · obtain ⟨a, rfl⟩ := n1 q
      rw [f_R, if_neg (show ¬ (3 : Nat) = 0 by decide), if_neg (show ¬ (3 : Nat) = 1 by decide), if_neg (show ¬ (3 : Nat) = 2 by decide), if_pos rfl, Nat.add_sub_cancel]
    · obtain ⟨a, rfl⟩ := n1 q
      rw [f_R, if_neg (show ¬ (4 : Nat) = 0 by decide), if_neg (show ¬ (4 : Nat) = 1 by decide), if_neg (show ¬ (4 : Nat) = 2 by decide), if_neg (show ¬ (4 : Nat) = 3 by decide), Nat.add_sub_cancel]
end X2

/-! mend, away -/
/-- NOISE, had a BOARD another CREAK and TOY -/
def nzB (N : Nat → List cls) (W : Nat → Nat) (m : gMem) (i b cr ty o t : Nat) : Nat := if o = b then lbV N W m i b cr ty t else nzO N W m i o t
def outB (N : Nat → List cls) (W : Nat → Nat) (m : gMem) (i b cr ty dr b0 t s : Nat) : Option Nat := fwN (nzB N W m i b cr ty) (fun t => depN (curP N m) t + 0) (tmN (wkd (W i))) dr t 31 (T0 b0 s) 0
/-- not above what OUT is now -/
def fle (q r : Option Nat) : Prop := r = none ∨ ∃ f g, q = some f ∧ r = some g ∧ f ≤ g
theorem fle_no {q r : Option Nat} (h : fle q r) : fewr r q = false := by
  rcases h with rfl | ⟨f, g, rfl, rfl, h⟩
  · rfl
  · simp [fewr]; omega
theorem fle_rfl (r : Option Nat) : fle r r := by
  cases r with
  | none => exact Or.inl rfl
  | some a => exact Or.inr ⟨a, a, rfl, rfl, Nat.le_refl _⟩
theorem fle_new {q r p : Option Nat} (h : fle q r) (hf : fewr p q = true) : fle p r := by
  rcases h with rfl | ⟨f, g, rfl, rfl, h⟩
  · exact Or.inl rfl
  · cases p with
    | none => cases hf
    | some a => exact Or.inr ⟨a, g, rfl, rfl, by simp [fewr] at hf; omega⟩
section V2
variable {L : List Nat} {W : Nat → Nat} {N : Nat → List cls} {x m x' m' m0 : gMem}
theorem nzB_id (i b : Nat) : nzB N W m i b (crO m b) (tyb (tyO m) b) = nzO N W m i := by
  funext o t
  unfold nzB
  by_cases h : o = b
  · subst h; rw [if_pos rfl]; rfl
  · rw [if_neg h]
theorem outB_id (i b dr b0 t s : Nat) : outB N W m i b (crO m b) (tyb (tyO m) b) dr b0 t s = outN N W m i dr b0 t s 0 := by
  unfold outB outN
  rw [nzB_id]
theorem outB_le {i b cr ty dr b0 t s a : Nat} (h : outB N W m i b cr ty dr b0 t s = some a) : a ≤ 40 := by have := fwN_le _ _ _ _ h; omega
theorem Rel.xchg (H : Rel L W N x m0) {n i dr b b0 t s cr ty : Nat} (hn : n ≤ 4) (en : gI m0 0 0 = nI n) (hi : i < n) (hL : LT x (nzO N W m0 i) (depN (curP N m0)) (tmN (wkd (W i))) dr) (hdr : dr < 12) (hb : b < 12) (hb0 : b0 < 12) (eb : gI m0 4 i = nI b0) (et : gI m0 0 1 = nI t) (ht : t ≤ 20000) (es : gI m0 0 2 = nI s) (hs : s ≤ 2) (hcr : cr ≤ 9) (hty : ty < 2) {c y : Int32} (hc : c = nI cr) (hy : y = nI ty) : ∃ x3, (∀ K : Int32 → gMem → Option (Int32 × gMem), (bd (f_X10_learnBoard L x (W i) (nI b) c y) fun (m16 : gMem) => bd2 (f_X10_fewest L m16 (gI m16 (W i) 2) (gI m16 10 4) (gI m16 10 5) (0 : Int32)) fun (x18 : Int32) (m17 : gMem) => bd (f_X10_learnBoard L m17 (W i) (nI b) (nI (crO m0 b)) (nI (tyb (tyO m0) b))) fun (m19 : gMem) => K x18 m19) = K (ansN (outB N W m0 i b cr ty dr b0 t s)) x3) ∧ Rel L W N x3 m0 ∧ LT x3 (nzO N W m0 i) (depN (curP N m0)) (tmN (wkd (W i))) dr := by
  subst hc
  subst hy
  have M := H.mn hn en hi
  obtain ⟨hN, hC, h3, h4, h5, h6, h7, h8, h9, h10, h11, h12⟩ := M
  obtain ⟨x1, a1, a2, a3, a4, a5⟩ := x_learnBoard H hn en hi hb hcr hty
  have A1 : agX x x1 := ⟨fun o c q => a2 o c (by omega) (by omega), fun o c _ => a3 o c, a4⟩
  have H1 : Rel L W N x1 m0 := H.fr A1 agM.rfl
  have L1 : LT x1 (nzB N W m0 i b cr ty) (depN (curP N m0)) (tmN (wkd (W i))) dr := by
    refine ⟨by rw [a2 _ _ (by omega) (by omega)]; exact hL.1, by rw [a2 _ _ (by omega) (by omega)]; exact hL.2.1, fun t ht => by rw [a2 _ _ (by omega) (by omega)]; exact hL.2.2.1 t ht, fun t o ht ho => ?_⟩
    unfold nzB
    by_cases h : o = b
    · subst h; rw [if_pos rfl, a5 t ht]
    · rw [if_neg h, a2 _ _ (by omega) (by omega)]; exact hL.2.2.2 t o ht ho
  have hlb : ∀ t, lbV N W m0 i b cr ty t ≤ 1030 := fun t => nzN_le h5 h6 (ld_le hN hC hcr hty)
  have hper : ∀ t, lbV N W m0 i b cr ty (t % 12) = lbV N W m0 i b cr ty t := fun t => by unfold lbV; rw [nzN_mod, ldN_mod]
  obtain ⟨x2, b1, b2⟩ := x_fewest (L := L) (e := 0) (t0 := t) (b := b0) (s := s) L1 (tmN_le _) (fun o t ho => by
    unfold nzB
    split
    · exact hlb t
    · exact (H.mn hn en hi).le ho t) hdr (by omega) (fun o t => by
    unfold nzB
    by_cases h : o = b
    · rw [if_pos h, if_pos h, hper]
    · rw [if_neg h, if_neg h, nzO_mod]) (fun t => depN_mod _ t) (fun t => by have := dep_le H.2.2.2.2.1 H.2.2.2.2.2.1 t; omega) hb0 hs
  have H2 : Rel L W N x2 m0 := H1.fr b2.ag agM.rfl
  have L2 := L1.f35 b2
  obtain ⟨x3, c1, c2, c3, c4, c5⟩ := x_learnBoard H2 hn en hi hb (h10 b hb).1 (tyb_lt (tyO m0) b)
  have H3 : Rel L W N x3 m0 := H2.fr ⟨fun o c q => c2 o c (by omega) (by omega), fun o c _ => c3 o c, c4⟩ agM.rfl
  obtain ⟨q1, q2, q3, q4, q5, q6, q7, q8, q9⟩ := (H1.2.1.w en hn).1 i hi
  have ex4 : gI x1 10 4 = gI m0 0 1 := H1.1.1.2.2.2.1
  have ex5 : gI x1 10 5 = gI m0 0 2 := H1.1.1.2.2.2.2.1
  refine ⟨x3, fun K => ?_, H3, ⟨by rw [c2 _ _ (by omega) (by omega)]; exact L2.1, by rw [c2 _ _ (by omega) (by omega)]; exact L2.2.1, fun t ht => by rw [c2 _ _ (by omega) (by omega)]; exact L2.2.2.1 t ht, fun t o ht ho => ?_⟩⟩
  · rw [a1, bd_s, q7, eb, ex4, et, ex5, es, li0, b1, bd2_s, c1, bd_s]
    rfl
  · by_cases h : o = b
    · subst h; rw [c5 t ht]; rfl
    · rw [c2 _ _ (by omega) (by omega), L2.2.2.2 t o ht ho]
      unfold nzB
      rw [if_neg h]
theorem m_mend_step (H : Rel L W N x m0) (A : agM m0 m) {n i dr b0 t s k : Nat} (hn : n ≤ 4) (en : gI m0 0 0 = nI n) (hi : i < n) (eb : gI m0 4 i = nI b0) (hb0 : b0 < 12) (et : gI m0 0 1 = nI t) (ht : t ≤ 9992) (es : gI m0 0 2 = nI s) (hs : s ≤ 2) (ed : gI m0 0 4 = nI dr) (hdr : dr < 12) (hk : k < 12) {a : Int32} {q : Option Nat} (hq : ∀ a, q = some a → a ≤ 40) : ∃ m3, agM m0 m3 ∧ ∀ F2 : Int32 → Int32 → Int32 → gMem → Option (Int32 × gMem), s_X12_mend_22 (nI i) F2 (ansN q) a (nI k) m = if fewr (outB N W m0 i k 0 (tyb (tyO m0) k) dr b0 t s) q = true then F2 (ansN (outB N W m0 i k 0 (tyb (tyO m0) k) dr b0 t s)) (nI k) (nI (k + 1)) m3 else F2 (ansN q) a (nI (k + 1)) m3 := by
  have M := H.mn hn en hi
  obtain ⟨hN, hC, h3', h4, h5, h6, h7, h8, h9, h10, h11, h12⟩ := id M
  have ecr := (h10 k hk).2
  have c12 : ¬ (12 : Int32) ≤ nI k := nI_ge (b := 12) hk (by decide)
  have M2 : MN x (gsI m 1 k (nI 0)) N i (wkd (W i)) (vO m0 i) (rowO m0 i) (fun o => if o = k then 0 else crO m0 o) (tyO m0) := by
    have M1 := M.ag A
    obtain ⟨g1, g2, g3, g4, g5, g6, g7, g8, g9, g10, g11, g12⟩ := M1
    refine ⟨g1.fr (fun _ _ _ => rfl) (fun _ => rfl) (fun o c q => gI_n (by omega)), g2.fr rfl (gI_n (by omega)) (gI_n (by omega)), g3, g4, g5, g6, ?_, ?_, ?_, fun o ho => ?_, g11, ?_⟩
    · rw [gI_n (by omega)]; exact g7
    · rw [gI_n (by omega)]; exact g8
    · intro j hj; rw [gI_n (by omega)]; exact g9 j hj
    · dsimp only
      by_cases h : o = k
      · subst h; rw [if_pos rfl, gI_y ⟨rfl, rfl⟩]; exact ⟨by omega, rfl⟩
      · rw [if_neg h, gI_n (by omega)]; exact g10 o ho
    · rw [gI_n (by omega)]; exact g12
  obtain ⟨m2, s1, s2⟩ := m_outBy M2 (t0 := t) (dd := 0) (dr := dr) (b := b0) (s := s) (by rw [gI_n (by omega), A.1 _ _ (by omega)]; exact H.2.2.2.2.2.2.2.1.1) (by omega) (by rw [gI_n (by omega), A.1 _ _ (by omega)]; exact ed) hdr (by omega) hb0 hs
  have hP : curP N (gsI m 1 k (nI 0)) = curP N m0 := curP_fr (by rw [gI_n (by omega), A.1 _ _ (by omega)])
  have hz : nzG (curP N m0) (wkd (W i)) (vO m0 i) (rowO m0 i) (fun o => if o = k then 0 else crO m0 o) (tyO m0) = nzB N W m0 i k 0 (tyb (tyO m0) k) := by
    funext o t
    unfold nzB nzG
    dsimp only
    by_cases h : o = k
    · subst h; rw [if_pos rfl, if_pos rfl]; rfl
    · rw [if_neg h, if_neg h]; rfl
  rw [hP, hz] at s1
  have s1 : f_X12_outBy (gsI m 1 k (nI 0)) (nI i) (nI b0) (nI t) (nI s) = some (ansN (outB N W m0 i k 0 (tyb (tyO m0) k) dr b0 t s), m2) := s1
  have hr : ∀ a, outB N W m0 i k 0 (tyb (tyO m0) k) dr b0 t s = some a → a ≤ 40 := fun a ha => outB_le ha
  have A2 : agM m0 (gsI m2 1 k (nI (crO m0 k))) := by
    refine ⟨fun o c q => ?_, fun o c q => (s2.2.1 o c).trans (A.2.1 o c q), fun o c => (s2.2.2 o c).trans (A.2.2 o c)⟩
    by_cases h : o = 1 ∧ c = k
    · rw [gI_y h, h.1, h.2]; exact ecr.symm
    · rw [gI_n h, s2.1 _ _ (by omega) (by omega), gI_n h, A.1 o c q]
  have ebm : gI (gsI m 1 k (nI 0)) 4 i = nI b0 := by rw [gI_n (by omega), A.1 _ _ (by omega)]; exact eb
  have etm : gI (gsI m 1 k (nI 0)) 0 1 = nI t := by rw [gI_n (by omega), A.1 _ _ (by omega)]; exact et
  have esm : gI (gsI m 1 k (nI 0)) 0 2 = nI s := by rw [gI_n (by omega), A.1 _ _ (by omega)]; exact es
  have ecm : gI m 1 k = nI (crO m0 k) := (A.1 _ _ (by omega)).trans ecr
  refine ⟨_, A2, fun F2 => ?_⟩
  unfold s_X12_mend_22 f_X12_outNow
  rw [if_neg c12, if_pos (okN hk (by decide)), ixN (by omega), ecm, lt1_s, if_pos (okN hk (by decide)), li0, lt1_s, if_pos (okN (show i < 4 by omega) (by decide)), ixN (by omega), ebm, etm, esm, s1, bd2_s, bd2_s, if_pos (okN hk (by decide)), lt1_s, jn_s, ← li0, m_fewer hr hq]
  simp only [lt1]
  rw [nI_1]
theorem x_mend_step (H : Rel L W N x m0) {n i dr b0 t s k : Nat} (hn : n ≤ 4) (en : gI m0 0 0 = nI n) (hi : i < n) (hL : LT x (nzO N W m0 i) (depN (curP N m0)) (tmN (wkd (W i))) dr) (eb : gI m0 4 i = nI b0) (hb0 : b0 < 12) (et : gI m0 0 1 = nI t) (ht : t ≤ 9992) (es : gI m0 0 2 = nI s) (hs : s ≤ 2) (hdr : dr < 12) (hk : k < 12) {a : Int32} {q : Option Nat} (hq : ∀ a, q = some a → a ≤ 40) (hle : fle q (outN N W m0 i dr b0 t s 0)) : ∃ x3, Rel L W N x3 m0 ∧ LT x3 (nzO N W m0 i) (depN (curP N m0)) (tmN (wkd (W i))) dr ∧ ∀ F1 : Int32 → Int32 → Int32 → gMem → Option (Int32 × gMem), s_X11_bestChange_34 L (W i) 0 F1 (ansN q) a (nI k) x = if fewr (outB N W m0 i k 0 (tyb (tyO m0) k) dr b0 t s) q = true then F1 (ansN (outB N W m0 i k 0 (tyb (tyO m0) k) dr b0 t s)) (nI k) (nI (k + 1)) x3 else F1 (ansN q) a (nI (k + 1)) x3 := by
  have M := H.mn hn en hi
  obtain ⟨hN, hC, h3', h4, h5, h6, h7, h8, h9, h10, h11, h12⟩ := id M
  have ecr := (h10 k hk).2
  have hcr := (h10 k hk).1
  have ex1 : gI x 11 k = gI m0 1 k := H.1.2.1.1 k hk
  have ex2 : gI x 10 1 = gI m0 0 3 := H.1.1.1
  have hsr := shr (T := tyO m0) (b := k) (by omega) hk
  have c12 : ¬ (12 : Int32) ≤ nI k := nI_ge (b := 12) hk (by decide)
  have hr : ∀ a, outB N W m0 i k 0 (tyb (tyO m0) k) dr b0 t s = some a → a ≤ 40 := fun a ha => outB_le ha
  by_cases h0 : crO m0 k = 0
  · have hf : fewr (outB N W m0 i k 0 (tyb (tyO m0) k) dr b0 t s) q = false := by
      rw [← h0, outB_id]; exact fle_no hle
    refine ⟨x, H, hL, fun F1 => ?_⟩
    rw [hf, if_neg (by decide)]
    unfold s_X11_bestChange_34 f_X2_toyOn
    rw [if_neg c12, if_pos (okN hk (by decide)), ixN (by omega), ex1, ecr, lt1_s, ex2, h12, hsr, bd_s, jn_s, jn_s, if_pos (show (0 : Int32) = 0 from rfl), if_pos (show nI (crO m0 k) = 0 by rw [h0]; rfl)]
    dsimp only
    rw [lt1_s, nI_1]
  · obtain ⟨x3, t1, t2, t3⟩ := H.xchg hn en hi hL hdr hk hb0 eb et (by omega) es hs (cr := 0) (ty := tyb (tyO m0) k) (by omega) (tyb_lt _ _) (c := 0) (y := nI (tyb (tyO m0) k)) rfl rfl
    refine ⟨x3, t2, t3, fun F1 => ?_⟩
    unfold s_X11_bestChange_34 f_X2_toyOn
    rw [if_neg c12, if_pos (okN hk (by decide)), ixN (by omega), ex1, ecr, lt1_s, ex2, h12, hsr, bd_s, jn_s, jn_s, if_pos (show (0 : Int32) = 0 from rfl), if_neg (nI_ne0 (by omega) (by omega)), jn_s, if_pos (show (0 : Int32) = 0 from rfl)]
    dsimp only
    rw [jn_s, if_pos (show (0 : Int32) = 0 from rfl)]
    dsimp only
    rw [t1 (fun (x18 : Int32) (m19 : gMem) => bd (f_X11_isFewer x18 (ansN q)) fun (x20 : Int32) => if x20 = 0 then (lt1 (nI k + (1 : Int32)) fun (x24 : Int32) => F1 (ansN q) a x24 m19) else lt1 (nI k + (1 : Int32)) fun (x24 : Int32) => F1 x18 (nI k) x24 m19)]
    rw [x_isFewer hr hq, bd_s]
    simp only [lt1]
    rw [nI_1]
    by_cases hf : fewr (outB N W m0 i k 0 (tyb (tyO m0) k) dr b0 t s) q = true
    · rw [if_pos hf, if_pos hf, if_neg (show ¬ nI 1 = 0 by decide)]
    · rw [if_neg hf, if_neg hf, if_pos (show nI 0 = 0 from rfl)]
theorem mend_loop {n i dr b0 t s : Nat} (hn : n ≤ 4) (en : gI m0 0 0 = nI n) (hi : i < n) (eb : gI m0 4 i = nI b0) (hb0 : b0 < 12) (et : gI m0 0 1 = nI t) (ht : t ≤ 9992) (es : gI m0 0 2 = nI s) (hs : s ≤ 2) (ed : gI m0 0 4 = nI dr) (hdr : dr < 12) : ∀ (d k f1 f2 : Nat) (a : Int32) (q : Option Nat) (x m : gMem), (∀ a, q = some a → a ≤ 40) → fle q (outN N W m0 i dr b0 t s 0) → Rel L W N x m0 → agM m0 m → LT x (nzO N W m0 i) (depN (curP N m0)) (tmN (wkd (W i))) dr → d + k = 12 → d < f1 → d < f2 → Op L W N (lq4 (s_X11_bestChange_34 L (W i) 0) f1 (ansN q) a (nI k) x) (lq4 (s_X12_mend_22 (nI i)) f2 (ansN q) a (nI k) m) := by
  intro d
  induction d with
  | zero =>
    intro k f1 f2 a q x m hq hle H A hL h1 h2 h3
    obtain ⟨f1, rfl⟩ : ∃ f, f1 = f + 1 := ⟨f1 - 1, by omega⟩
    obtain ⟨f2, rfl⟩ : ∃ f, f2 = f + 1 := ⟨f2 - 1, by omega⟩
    rw [lq4_u, lq4_u]
    unfold s_X11_bestChange_34 s_X12_mend_22
    have c : (12 : Int32) ≤ nI k := nI_le (a := 12) (by omega) (by omega)
    rw [if_pos c, if_pos c]
    exact ⟨a, x, m, rfl, rfl, H.fr agX.rfl A⟩
  | succ d IH =>
    intro k f1 f2 a q x m hq hle H A hL h1 h2 h3
    obtain ⟨f1, rfl⟩ : ∃ f, f1 = f + 1 := ⟨f1 - 1, by omega⟩
    obtain ⟨f2, rfl⟩ : ∃ f, f2 = f + 1 := ⟨f2 - 1, by omega⟩
    have hk : k < 12 := by omega
    obtain ⟨m3, A2, mstep⟩ := m_mend_step H A hn en hi eb hb0 et ht es hs ed hdr hk (a := a) hq
    obtain ⟨x3, t2, t3, xstep⟩ := x_mend_step H hn en hi hL eb hb0 et ht es hs hdr hk (a := a) hq hle
    have hr : ∀ a, outB N W m0 i k 0 (tyb (tyO m0) k) dr b0 t s = some a → a ≤ 40 := fun a ha => outB_le ha
    rw [lq4_u, lq4_u, mstep, xstep]
    by_cases hf : fewr (outB N W m0 i k 0 (tyb (tyO m0) k) dr b0 t s) q = true
    · rw [if_pos hf, if_pos hf]
      exact IH (k + 1) f1 f2 (nI k) _ x3 m3 hr (fle_new hle hf) t2 A2 t3 (by omega) (by omega) (by omega)
    · rw [if_neg hf, if_neg hf]
      exact IH (k + 1) f1 f2 a q x3 m3 hq hle t2 A2 t3 (by omega) (by omega) (by omega)
theorem op_mend (H : Rel L W N x m) (p0 : Int32) : Op L W N (f_X11_mend L x p0) (f_X12_mend m p0) := by
  obtain ⟨n, hn, en, hW⟩ := H.2.1
  unfold f_X11_mend f_X12_mend
  rw [x_find H hn en, m_isWalker hn en]
  rcases p_in p0 n (by omega) with ⟨i, hi, rfl⟩ | h | h
  rotate_left
  · exact ⟨-1, x, m, by simp (disch := omega) only [lt1, jn, bd_s, bd2_s, oc_s, oc_n, li0, li1, li2, li3, li4, li5, li6, li7, li8, li9, li10, li11, li12, li13, li14, li16, li20, li21, li22, li24, li30, li31, li33, li38, li39, li40, li41, li45, li48, li50, li51, li57, li58, li59, li60, li61, li62, li64, li70, li71, li72, li99, li100, li101, li104, li107, li109, li116, li120, li121, li124, li127, li128, li144, li255, li300, li360, li372, li396, li600, li999, li1000, li9960, li9990, li1000000, nI_1, nI_add, pk_sub, pk_mul, pk_div, rem_nI, i_lt, i_le, i_eq, okI, ix, isB, nI_clamp, nI_toInt, tneg, gI_sI, gR_sI, gJ_sI, gI_sR, gR_sR, gJ_sR, gI_sJ, gR_sJ, gJ_sJ, true_and, and_true, false_and, and_false, if_true, if_false, if_pos, if_neg], by simp (disch := omega) only [lt1, jn, bd_s, bd2_s, oc_s, oc_n, li0, li1, li2, li3, li4, li5, li6, li7, li8, li9, li10, li11, li12, li13, li14, li16, li20, li21, li22, li24, li30, li31, li33, li38, li39, li40, li41, li45, li48, li50, li51, li57, li58, li59, li60, li61, li62, li64, li70, li71, li72, li99, li100, li101, li104, li107, li109, li116, li120, li121, li124, li127, li128, li144, li255, li300, li360, li372, li396, li600, li999, li1000, li9960, li9990, li1000000, nI_1, nI_add, pk_sub, pk_mul, pk_div, rem_nI, i_lt, i_le, i_eq, okI, ix, isB, nI_clamp, nI_toInt, tneg, gI_sI, gR_sI, gJ_sI, gI_sR, gR_sR, gJ_sR, gI_sJ, gR_sJ, gJ_sJ, true_and, and_true, false_and, and_false, if_true, if_false, if_pos, if_neg], H⟩
  · exact ⟨-1, x, m, by simp (disch := omega) only [lt1, jn, bd_s, bd2_s, oc_s, oc_n, li0, li1, li2, li3, li4, li5, li6, li7, li8, li9, li10, li11, li12, li13, li14, li16, li20, li21, li22, li24, li30, li31, li33, li38, li39, li40, li41, li45, li48, li50, li51, li57, li58, li59, li60, li61, li62, li64, li70, li71, li72, li99, li100, li101, li104, li107, li109, li116, li120, li121, li124, li127, li128, li144, li255, li300, li360, li372, li396, li600, li999, li1000, li9960, li9990, li1000000, nI_1, nI_add, pk_sub, pk_mul, pk_div, rem_nI, i_lt, i_le, i_eq, okI, ix, isB, nI_clamp, nI_toInt, tneg, gI_sI, gR_sI, gJ_sI, gI_sR, gR_sR, gJ_sR, gI_sJ, gR_sJ, gJ_sJ, true_and, and_true, false_and, and_false, if_true, if_false, if_pos, if_neg], by simp (disch := omega) only [lt1, jn, bd_s, bd2_s, oc_s, oc_n, li0, li1, li2, li3, li4, li5, li6, li7, li8, li9, li10, li11, li12, li13, li14, li16, li20, li21, li22, li24, li30, li31, li33, li38, li39, li40, li41, li45, li48, li50, li51, li57, li58, li59, li60, li61, li62, li64, li70, li71, li72, li99, li100, li101, li104, li107, li109, li116, li120, li121, li124, li127, li128, li144, li255, li300, li360, li372, li396, li600, li999, li1000, li9960, li9990, li1000000, nI_1, nI_add, pk_sub, pk_mul, pk_div, rem_nI, i_lt, i_le, i_eq, okI, ix, isB, nI_clamp, nI_toInt, tneg, gI_sI, gR_sI, gJ_sI, gI_sR, gR_sR, gJ_sR, gI_sJ, gR_sJ, gJ_sJ, true_and, and_true, false_and, and_false, if_true, if_false, if_pos, if_neg], H⟩
  obtain ⟨q1, q2, q3, q4, q5, q6, q7, ⟨b, hb, eb⟩, q9⟩ := hW.1 i hi
  have z3 := q1.1
  obtain ⟨t, ht, et⟩ : rg (gI m 0 1) 9992 := H.1.2.2.2.1
  obtain ⟨s, hs, es⟩ : rg (gI m 0 2) 2 := H.1.2.2.2.2.1
  obtain ⟨d, hd, ed⟩ : rg (gI m 0 4) 11 := H.1.2.2.2.2.2.2.1
  have ex4 : gI x 10 4 = gI m 0 1 := H.1.1.2.2.2.1
  have ex5 : gI x 10 5 = gI m 0 2 := H.1.1.2.2.2.2.1
  obtain ⟨x1, e1, H1, L1, k1⟩ := x_learn H hn en hi ed
  obtain ⟨x2, r1, r2⟩ := H1.xout hn en hi (e := 0) L1 (by omega) (b := b) (t := t) (s := s) (by omega) (by omega) hs (by omega)
  obtain ⟨m2, s1, s2⟩ := H.mout agM.rfl hn en hi ed (by omega) (b := b) (t := t) (s := s) (by omega) (by omega) hs
  have w2 : gI x1 (W i) 2 = nI b := by rw [k1 _ _ (by omega) (by omega), q7, eb]
  have w4 : gI x1 10 4 = nI t := by rw [k1 _ _ (by omega) (by omega), ex4, et]
  have w5 : gI x1 10 5 = nI s := by rw [k1 _ _ (by omega) (by omega), ex5, es]
  obtain ⟨a, x', m', a1, a2, a3⟩ := mend_loop (L := L) (W := W) (N := N) (m0 := m) hn en hi eb (by omega) et ht es hs ed (by omega) 12 0 1000 1000 (-5) _ x2 m2 (fun a ha => outN_le ha) (fle_rfl _) (H1.fr r2.ag agM.rfl) s2.ag (L1.f35 r2) rfl (by decide) (by decide)
  refine ⟨a, x', m', ?_, ?_, a3⟩
  · unfold f_X11_bestChange
    rw [if_pos (okN hi (by omega)), bd_s, oc_s, ixN (by omega), if_pos q1, e1, bd_s, w2, w4, w5, li0, r1, bd2_s]
    have a1 : lq4 (s_X11_bestChange_34 L (W i) (nI 0)) 1000 (ansN (outN N W m i d b t s 0)) (-5) (nI 0) x2 = some (a, x') := a1
    rw [a1]; rfl
  · unfold f_X12_outNow
    rw [if_pos (okN hi (by omega)), bd_s, if_neg (by decide), if_pos (okN (show i < 4 by omega) (by decide)), ixN (by omega), eb, et, es, s1, bd2_s, bd2_s, li0, a2]
end V2

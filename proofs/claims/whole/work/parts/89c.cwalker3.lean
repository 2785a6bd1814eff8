/-! the class's call walker, for every kind -/
/-- the new WALKER's number -/
abbrev wnr (q k : Nat) : Nat := 128 + 32 * q + 4 * k
theorem wnr_k {q k : Nat} (h : k < 7) : wkd (wnr q k) = k := by show (128 + 32 * q + 4 * k) / 4 % 8 = k; omega
theorem wnr_s {q k : Nat} (h : k < 7) : shX (wnr q k) = (0, kci k, wFs (wnr q k)) := by
  have hv : wnr q k = 128 + 32 * q + 4 * k := rfl
  have e : wkd (wnr q k) = k := wnr_k h
  unfold shX
  rw [if_neg (by omega), show wnr q k % 4 = 0 by omega]
  show (0, kci (wkd (wnr q k)), _) = _
  rw [e]
theorem wnr_1 {q k : Nat} : shW (wnr q k) (wnr q k + 1) = (1, 20, []) := by
  have hv : wnr q k = 128 + 32 * q + 4 * k := rfl
  rw [shW_n (by omega)]; unfold shX; rw [if_neg (by omega), show (wnr q k + 1) % 4 = 1 by omega]; rfl
theorem wnr_2 {q k : Nat} : shW (wnr q k) (wnr q k + 2) = (1, 4, []) := by
  have hv : wnr q k = 128 + 32 * q + 4 * k := rfl
  rw [shW_n (by omega)]; unfold shX; rw [if_neg (by omega), show (wnr q k + 2) % 4 = 2 by omega]; rfl
theorem wnr_3 {q k : Nat} : shW (wnr q k) (wnr q k + 3) = (1, 4, []) := by
  have hv : wnr q k = 128 + 32 * q + 4 * k := rfl
  rw [shW_n (by omega)]; unfold shX; rw [if_neg (by omega), show (wnr q k + 3) % 4 = 3 by omega]; rfl
theorem wnr_0 {q k : Nat} (h : k < 7) (h6 : k ≠ 6) : shW (wnr q k) (wnr q k) = (0, kci k, [0, 0, 0, 0, 1, 0]) := by
  have hv : wnr q k = 128 + 32 * q + 4 * k := rfl
  unfold shW
  rw [if_pos rfl, wnr_s h]
  unfold wFs
  rw [if_neg (show ¬ wkd (wnr q k) = 6 by rw [wnr_k h]; exact h6)]
  simp [opS0, opF]
theorem wnr_6 {q : Nat} : shW (wnr q 6) (wnr q 6) = (0, kci 6, [0, 0, 0, 0, 1, 0, 1, 1]) := by
  have hv : wnr q 6 = 128 + 32 * q + 4 * 6 := rfl
  unfold shW
  rw [if_pos rfl, wnr_s (by decide)]
  unfold wFs
  rw [if_pos (show wkd (wnr q 6) = 6 from wnr_k (by decide))]
  simp [opS0, opF]
def WNw (n q k : Nat) (p1 p2 : Int32) (mem : gMem) (L : List Nat) (memN : gMem) (L' : List Nat) : Prop := gI memN (wnr q k) 0 = nI n ∧ gI memN (wnr q k) 1 = p1 ∧ gI memN (wnr q k) 2 = p2 ∧ (∀ o c, o ≠ wnr q k → gI memN o c = gI mem o c) ∧ (∀ c, 3 ≤ c → gI memN (wnr q k) c = gI mem (wnr q k) c) ∧ (∀ o c, gJ memN o c = gJ mem o c) ∧ (∀ o c, o ≠ wnr q k → gR memN o c = gR mem o c) ∧ (∀ o ∈ L, o ∈ L') ∧ wnr q k ∈ L' ∧ wnr q k + 1 ∈ L' ∧ (k = 6 → wnr q k + 2 ∈ L' ∧ wnr q k + 3 ∈ L') ∧ (∀ o ∈ L', o ∈ L ∨ (wnr q k ≤ o ∧ o ≤ wnr q k + 3)) ∧ gZ L' memN ∧ gCl shX L' memN ∧ gCl (shW (wnr q k)) L' memN ∧ gR memN (wnr q k) 4 = some (wnr q k + 1) ∧ (k = 6 → gR memN (wnr q k) 6 = some (wnr q k + 2) ∧ gR memN (wnr q k) 7 = some (wnr q k + 3))
theorem clX {w : Nat} {L' : List Nat} {memN : gMem} (h : gCl (shW w) L' memN) (hc : ∀ c : Nat, c + 2 ∈ (shX w).2.2 → c ∈ L') : gCl shX L' memN := by
  intro o ho
  refine ⟨(h o ho).1, fun c hcc => ?_⟩
  by_cases e : o = w
  · subst e; exact hc c hcc
  · exact (h o ho).2 c (by rw [shW_n e]; exact hcc)
theorem wn_a {n q k : Nat} {p1 p2 : Int32} {mem memN : gMem} {L : List Nat} (hk : k < 7) (h6 : k ≠ 6) (he : memN = gsI (gsI (gsI (gsR mem (wnr q k) 4 (some (wnr q k + 1))) (wnr q k) 0 (nI n)) (wnr q k) 1 p1) (wnr q k) 2 p2) (hz : gZ ((wnr q k + 1) :: wnr q k :: L) memN) (hc : gCl (shW (wnr q k)) ((wnr q k + 1) :: wnr q k :: L) memN) : WNw n q k p1 p2 mem L memN ((wnr q k + 1) :: wnr q k :: L) := by
  have hv : wnr q k = 128 + 32 * q + 4 * k := rfl
  refine ⟨?_, ?_, ?_, fun o c h => ?_, fun c h => ?_, fun o c => ?_, fun o c h => ?_, fun o ho => List.mem_cons_of_mem _ (List.mem_cons_of_mem _ ho), List.mem_cons_of_mem _ List.mem_cons_self, List.mem_cons_self, fun h => absurd h h6, fun o ho => ?_, hz, clX hc (fun c hcc => ?_), hc, ?_, fun h => absurd h h6⟩
  · rw [he, gI_n (by omega), gI_n (by omega), gI_y ⟨rfl, rfl⟩]
  · rw [he, gI_n (by omega), gI_y ⟨rfl, rfl⟩]
  · rw [he, gI_y ⟨rfl, rfl⟩]
  · rw [he, gI_n (fun z => h z.1), gI_n (fun z => h z.1), gI_n (fun z => h z.1)]; rfl
  · rw [he, gI_n (by omega), gI_n (by omega), gI_n (by omega)]; rfl
  · rw [he]; rfl
  · rw [he]; show gR (gsR mem (wnr q k) 4 (some (wnr q k + 1))) o c = _; rw [gR_n (fun z => h z.1)]
  · rcases List.mem_cons.mp ho with h | h
    · exact Or.inr (by omega)
    · rcases List.mem_cons.mp h with h | h
      · exact Or.inr (by omega)
      · exact Or.inl h
  · rw [wnr_s hk] at hcc
    unfold wFs at hcc
    rw [if_neg (show ¬ wkd (wnr q k) = 6 by rw [wnr_k hk]; exact h6)] at hcc
    simp only [List.mem_cons, List.not_mem_nil, or_false] at hcc
    have : c = wnr q k + 1 := by omega
    rw [this]
    exact List.mem_cons_self
  · rw [he]; show gR (gsR mem (wnr q k) 4 (some (wnr q k + 1))) (wnr q k) 4 = _; exact gR_y ⟨rfl, rfl⟩
theorem wn_b {n q : Nat} {p1 p2 : Int32} {mem memN : gMem} {L : List Nat} (he : memN = gsR (gsR (gsI (gsI (gsI (gsR mem (wnr q 6) 4 (some (wnr q 6 + 1))) (wnr q 6) 0 (nI n)) (wnr q 6) 1 p1) (wnr q 6) 2 p2) (wnr q 6) 6 (some (wnr q 6 + 2))) (wnr q 6) 7 (some (wnr q 6 + 3))) (hz : gZ ((wnr q 6 + 3) :: (wnr q 6 + 2) :: (wnr q 6 + 1) :: wnr q 6 :: L) memN) (hc : gCl (shW (wnr q 6)) ((wnr q 6 + 3) :: (wnr q 6 + 2) :: (wnr q 6 + 1) :: wnr q 6 :: L) memN) : WNw n q 6 p1 p2 mem L memN ((wnr q 6 + 3) :: (wnr q 6 + 2) :: (wnr q 6 + 1) :: wnr q 6 :: L) := by
  have hv : wnr q 6 = 128 + 32 * q + 4 * 6 := rfl
  have m4 : ∀ o ∈ L, o ∈ (wnr q 6 + 3) :: (wnr q 6 + 2) :: (wnr q 6 + 1) :: wnr q 6 :: L := fun o ho => List.mem_cons_of_mem _ (List.mem_cons_of_mem _ (List.mem_cons_of_mem _ (List.mem_cons_of_mem _ ho)))
  have m0 : wnr q 6 ∈ (wnr q 6 + 3) :: (wnr q 6 + 2) :: (wnr q 6 + 1) :: wnr q 6 :: L := List.mem_cons_of_mem _ (List.mem_cons_of_mem _ (List.mem_cons_of_mem _ List.mem_cons_self))
  have m1 : wnr q 6 + 1 ∈ (wnr q 6 + 3) :: (wnr q 6 + 2) :: (wnr q 6 + 1) :: wnr q 6 :: L := List.mem_cons_of_mem _ (List.mem_cons_of_mem _ List.mem_cons_self)
  have m2 : wnr q 6 + 2 ∈ (wnr q 6 + 3) :: (wnr q 6 + 2) :: (wnr q 6 + 1) :: wnr q 6 :: L := List.mem_cons_of_mem _ List.mem_cons_self
  have m3 : wnr q 6 + 3 ∈ (wnr q 6 + 3) :: (wnr q 6 + 2) :: (wnr q 6 + 1) :: wnr q 6 :: L := List.mem_cons_self
  refine ⟨?_, ?_, ?_, fun o c h => ?_, fun c h => ?_, fun o c => ?_, fun o c h => ?_, m4, m0, m1, fun _ => ⟨m2, m3⟩, fun o ho => ?_, hz, clX hc (fun c hcc => ?_), hc, ?_, fun _ => ⟨?_, ?_⟩⟩
  · rw [he, gI_sR, gI_sR, gI_n (by omega), gI_n (by omega), gI_y ⟨rfl, rfl⟩]
  · rw [he, gI_sR, gI_sR, gI_n (by omega), gI_y ⟨rfl, rfl⟩]
  · rw [he, gI_sR, gI_sR, gI_y ⟨rfl, rfl⟩]
  · rw [he, gI_sR, gI_sR, gI_n (fun z => h z.1), gI_n (fun z => h z.1), gI_n (fun z => h z.1)]; rfl
  · rw [he, gI_sR, gI_sR, gI_n (by omega), gI_n (by omega), gI_n (by omega)]; rfl
  · rw [he]; rfl
  · rw [he, gR_n (fun z => h z.1), gR_n (fun z => h z.1)]; show gR (gsR mem (wnr q 6) 4 (some (wnr q 6 + 1))) o c = _; rw [gR_n (fun z => h z.1)]
  · rcases List.mem_cons.mp ho with h | h
    · exact Or.inr (by omega)
    · rcases List.mem_cons.mp h with h | h
      · exact Or.inr (by omega)
      · rcases List.mem_cons.mp h with h | h
        · exact Or.inr (by omega)
        · rcases List.mem_cons.mp h with h | h
          · exact Or.inr (by omega)
          · exact Or.inl h
  · rw [wnr_s (by decide)] at hcc
    unfold wFs at hcc
    rw [if_pos (show wkd (wnr q 6) = 6 from wnr_k (by decide))] at hcc
    simp only [List.cons_append, List.mem_cons, List.not_mem_nil, or_false] at hcc
    have : c = wnr q 6 + 1 ∨ c = wnr q 6 + 2 ∨ c = wnr q 6 + 3 := by omega
    rcases this with h | h | h <;> rw [h] <;> assumption
  · rw [he, gR_n (by omega), gR_n (by omega)]; show gR (gsR mem (wnr q 6) 4 (some (wnr q 6 + 1))) (wnr q 6) 4 = _; exact gR_y ⟨rfl, rfl⟩
  · rw [he, gR_n (by omega), gR_y ⟨rfl, rfl⟩]
  · rw [he, gR_y ⟨rfl, rfl⟩]
def mWz (memN : gMem) (n q k : Nat) : gMem := gsI (gsR memN 1 n (some (wnr q k))) 10 3 (nI (n + 1))
def gWz (l : Launch) (fr lo mc ms sz0 : Nat) (adK adV : Nat → Nat) (D : va_G) (cy : Nat → ClassId) (ad : Nat → Nat) (L L' : List Nat) (n q k : Nat) (p1 p2 : Int32) (mem memN : gMem) : Prop := gNew l yX11_walker cX11_walker 5 (some .int) fr lo mc ms (EZ sz0 adK adV) D cy shX shX ad L L' [.ref (ad 0), .int (nI k), .int p1, .int p2] mem (mWz memN n q k) (fun _ => some (.int (nI n)))
theorem c_W0 {l : Launch} {sz0 : Nat} {adK adV : Nat → Nat} {D : va_G} {cy : Nat → ClassId} {ad : Nat → Nat} {L : List Nat} {mem : gMem} {n q : Nat} {p1 p2 : Int32} (hp1 : ¬ p1 < 0) (hp9 : p1 ≤ 9) (hp2 : f_X11_isBoard p2 = some 1) (hn : gI mem 10 3 = nI n) (hn4 : n < 4) (hL : ∀ o ∈ LX0, o ∈ L) (hk : gOk ad L) (hz : gZ L mem) (hc : gCl shX L mem) (h0L : ∀ o ∈ L, sz0 ≤ ad o) (hB : ∀ o ∈ L, o < 128 + 32 * q) : ∃ (memN : gMem) (L' : List Nat) (fr lo mc ms : Nat), fr ≤ 5 ∧ lo ≤ 104 ∧ mc ≤ 4 ∧ ms ≤ 36 ∧ WNw n q 0 p1 p2 mem L memN L' ∧ gWz l fr lo mc ms sz0 adK adV D cy ad L L' n q 0 p1 p2 mem memN := by
  have hv : wnr q 0 = 128 + 32 * q + 4 * 0 := rfl
  have hne : ∀ o ∈ L, o ≠ wnr q 0 := fun o ho z => by have := hB o ho; omega
  have hcW : gCl (shW (wnr q 0)) L mem := fun o ho => by rw [shW_n (hne o ho)]; exact hc o ho
  have hzc := z_NW_0 (sh := shW (wnr q 0)) (w := wnr q 0) (p0 := nI n) (p1 := p1) (p2 := p2) (wnr_0 (by decide) (by decide)) wnr_1 (fun z => by have := hB _ z; omega) (fun z => by have := hB _ z; omega) hz hcW
  have hW : WNw n q 0 p1 p2 mem L (i_NW_0 (wnr q 0) (nI n) p1 p2 mem) ((wnr q 0 + 1) :: wnr q 0 :: L) := wn_a (by decide) (by decide) rfl hzc.1 hzc.2
  refine ⟨i_NW_0 (wnr q 0) (nI n) p1 p2 mem, ((wnr q 0 + 1) :: wnr q 0 :: L), 3, 58, 2, 26, by decide, by decide, by decide, by decide, hW, ?_⟩
  obtain ⟨-, -, -, -, -, -, -, u1, u2, u3, u4, u5, u6, u7, u8, u9, u10⟩ := hW
  exact c_Wn (w := wnr q 0) (k := 0) (fr := 2) (lo := 35) (mc := 2) (ms := 26) (by decide) hp1 hp9 hp2 hn hn4 (wnr_s (by decide)) (by omega) (wnr_k (by decide)) (fun z => hne _ z rfl) hL hk hz hc h0L (n_NW_0 (sh := shW (wnr q 0)) (wnr_0 (by decide) (by decide)) wnr_1 (fun z => by have := hB _ z; omega) (fun z => by have := hB _ z; omega) hk hz hcW h0L) u6 u8 u7 u1 u2 u9 u10
theorem c_W1 {l : Launch} {sz0 : Nat} {adK adV : Nat → Nat} {D : va_G} {cy : Nat → ClassId} {ad : Nat → Nat} {L : List Nat} {mem : gMem} {n q : Nat} {p1 p2 : Int32} (hp1 : ¬ p1 < 0) (hp9 : p1 ≤ 9) (hp2 : f_X11_isBoard p2 = some 1) (hn : gI mem 10 3 = nI n) (hn4 : n < 4) (hL : ∀ o ∈ LX0, o ∈ L) (hk : gOk ad L) (hz : gZ L mem) (hc : gCl shX L mem) (h0L : ∀ o ∈ L, sz0 ≤ ad o) (hB : ∀ o ∈ L, o < 128 + 32 * q) : ∃ (memN : gMem) (L' : List Nat) (fr lo mc ms : Nat), fr ≤ 5 ∧ lo ≤ 104 ∧ mc ≤ 4 ∧ ms ≤ 36 ∧ WNw n q 1 p1 p2 mem L memN L' ∧ gWz l fr lo mc ms sz0 adK adV D cy ad L L' n q 1 p1 p2 mem memN := by
  have hv : wnr q 1 = 128 + 32 * q + 4 * 1 := rfl
  have hne : ∀ o ∈ L, o ≠ wnr q 1 := fun o ho z => by have := hB o ho; omega
  have hcW : gCl (shW (wnr q 1)) L mem := fun o ho => by rw [shW_n (hne o ho)]; exact hc o ho
  have hzc := z_NW_1 (sh := shW (wnr q 1)) (w := wnr q 1) (p0 := nI n) (p1 := p1) (p2 := p2) (wnr_0 (by decide) (by decide)) wnr_1 (fun z => by have := hB _ z; omega) (fun z => by have := hB _ z; omega) hz hcW
  have hW : WNw n q 1 p1 p2 mem L (i_NW_1 (wnr q 1) (nI n) p1 p2 mem) ((wnr q 1 + 1) :: wnr q 1 :: L) := wn_a (by decide) (by decide) rfl hzc.1 hzc.2
  refine ⟨i_NW_1 (wnr q 1) (nI n) p1 p2 mem, ((wnr q 1 + 1) :: wnr q 1 :: L), 4, 81, 2, 26, by decide, by decide, by decide, by decide, hW, ?_⟩
  obtain ⟨-, -, -, -, -, -, -, u1, u2, u3, u4, u5, u6, u7, u8, u9, u10⟩ := hW
  exact c_Wn (w := wnr q 1) (k := 1) (fr := 3) (lo := 58) (mc := 2) (ms := 26) (by decide) hp1 hp9 hp2 hn hn4 (wnr_s (by decide)) (by omega) (wnr_k (by decide)) (fun z => hne _ z rfl) hL hk hz hc h0L (n_NW_1 (sh := shW (wnr q 1)) (wnr_0 (by decide) (by decide)) wnr_1 (fun z => by have := hB _ z; omega) (fun z => by have := hB _ z; omega) hk hz hcW h0L) u6 u8 u7 u1 u2 u9 u10
theorem c_W2 {l : Launch} {sz0 : Nat} {adK adV : Nat → Nat} {D : va_G} {cy : Nat → ClassId} {ad : Nat → Nat} {L : List Nat} {mem : gMem} {n q : Nat} {p1 p2 : Int32} (hp1 : ¬ p1 < 0) (hp9 : p1 ≤ 9) (hp2 : f_X11_isBoard p2 = some 1) (hn : gI mem 10 3 = nI n) (hn4 : n < 4) (hL : ∀ o ∈ LX0, o ∈ L) (hk : gOk ad L) (hz : gZ L mem) (hc : gCl shX L mem) (h0L : ∀ o ∈ L, sz0 ≤ ad o) (hB : ∀ o ∈ L, o < 128 + 32 * q) : ∃ (memN : gMem) (L' : List Nat) (fr lo mc ms : Nat), fr ≤ 5 ∧ lo ≤ 104 ∧ mc ≤ 4 ∧ ms ≤ 36 ∧ WNw n q 2 p1 p2 mem L memN L' ∧ gWz l fr lo mc ms sz0 adK adV D cy ad L L' n q 2 p1 p2 mem memN := by
  have hv : wnr q 2 = 128 + 32 * q + 4 * 2 := rfl
  have hne : ∀ o ∈ L, o ≠ wnr q 2 := fun o ho z => by have := hB o ho; omega
  have hcW : gCl (shW (wnr q 2)) L mem := fun o ho => by rw [shW_n (hne o ho)]; exact hc o ho
  have hzc := z_NW_2 (sh := shW (wnr q 2)) (w := wnr q 2) (p0 := nI n) (p1 := p1) (p2 := p2) (wnr_0 (by decide) (by decide)) wnr_1 (fun z => by have := hB _ z; omega) (fun z => by have := hB _ z; omega) hz hcW
  have hW : WNw n q 2 p1 p2 mem L (i_NW_2 (wnr q 2) (nI n) p1 p2 mem) ((wnr q 2 + 1) :: wnr q 2 :: L) := wn_a (by decide) (by decide) rfl hzc.1 hzc.2
  refine ⟨i_NW_2 (wnr q 2) (nI n) p1 p2 mem, ((wnr q 2 + 1) :: wnr q 2 :: L), 4, 81, 2, 26, by decide, by decide, by decide, by decide, hW, ?_⟩
  obtain ⟨-, -, -, -, -, -, -, u1, u2, u3, u4, u5, u6, u7, u8, u9, u10⟩ := hW
  exact c_Wn (w := wnr q 2) (k := 2) (fr := 3) (lo := 58) (mc := 2) (ms := 26) (by decide) hp1 hp9 hp2 hn hn4 (wnr_s (by decide)) (by omega) (wnr_k (by decide)) (fun z => hne _ z rfl) hL hk hz hc h0L (n_NW_2 (sh := shW (wnr q 2)) (wnr_0 (by decide) (by decide)) wnr_1 (fun z => by have := hB _ z; omega) (fun z => by have := hB _ z; omega) hk hz hcW h0L) u6 u8 u7 u1 u2 u9 u10
theorem c_W3 {l : Launch} {sz0 : Nat} {adK adV : Nat → Nat} {D : va_G} {cy : Nat → ClassId} {ad : Nat → Nat} {L : List Nat} {mem : gMem} {n q : Nat} {p1 p2 : Int32} (hp1 : ¬ p1 < 0) (hp9 : p1 ≤ 9) (hp2 : f_X11_isBoard p2 = some 1) (hn : gI mem 10 3 = nI n) (hn4 : n < 4) (hL : ∀ o ∈ LX0, o ∈ L) (hk : gOk ad L) (hz : gZ L mem) (hc : gCl shX L mem) (h0L : ∀ o ∈ L, sz0 ≤ ad o) (hB : ∀ o ∈ L, o < 128 + 32 * q) : ∃ (memN : gMem) (L' : List Nat) (fr lo mc ms : Nat), fr ≤ 5 ∧ lo ≤ 104 ∧ mc ≤ 4 ∧ ms ≤ 36 ∧ WNw n q 3 p1 p2 mem L memN L' ∧ gWz l fr lo mc ms sz0 adK adV D cy ad L L' n q 3 p1 p2 mem memN := by
  have hv : wnr q 3 = 128 + 32 * q + 4 * 3 := rfl
  have hne : ∀ o ∈ L, o ≠ wnr q 3 := fun o ho z => by have := hB o ho; omega
  have hcW : gCl (shW (wnr q 3)) L mem := fun o ho => by rw [shW_n (hne o ho)]; exact hc o ho
  have hzc := z_NW_3 (sh := shW (wnr q 3)) (w := wnr q 3) (p0 := nI n) (p1 := p1) (p2 := p2) (wnr_0 (by decide) (by decide)) wnr_1 (fun z => by have := hB _ z; omega) (fun z => by have := hB _ z; omega) hz hcW
  have hW : WNw n q 3 p1 p2 mem L (i_NW_3 (wnr q 3) (nI n) p1 p2 mem) ((wnr q 3 + 1) :: wnr q 3 :: L) := wn_a (by decide) (by decide) rfl hzc.1 hzc.2
  refine ⟨i_NW_3 (wnr q 3) (nI n) p1 p2 mem, ((wnr q 3 + 1) :: wnr q 3 :: L), 4, 81, 2, 26, by decide, by decide, by decide, by decide, hW, ?_⟩
  obtain ⟨-, -, -, -, -, -, -, u1, u2, u3, u4, u5, u6, u7, u8, u9, u10⟩ := hW
  exact c_Wn (w := wnr q 3) (k := 3) (fr := 3) (lo := 58) (mc := 2) (ms := 26) (by decide) hp1 hp9 hp2 hn hn4 (wnr_s (by decide)) (by omega) (wnr_k (by decide)) (fun z => hne _ z rfl) hL hk hz hc h0L (n_NW_3 (sh := shW (wnr q 3)) (wnr_0 (by decide) (by decide)) wnr_1 (fun z => by have := hB _ z; omega) (fun z => by have := hB _ z; omega) hk hz hcW h0L) u6 u8 u7 u1 u2 u9 u10
theorem c_W4 {l : Launch} {sz0 : Nat} {adK adV : Nat → Nat} {D : va_G} {cy : Nat → ClassId} {ad : Nat → Nat} {L : List Nat} {mem : gMem} {n q : Nat} {p1 p2 : Int32} (hp1 : ¬ p1 < 0) (hp9 : p1 ≤ 9) (hp2 : f_X11_isBoard p2 = some 1) (hn : gI mem 10 3 = nI n) (hn4 : n < 4) (hL : ∀ o ∈ LX0, o ∈ L) (hk : gOk ad L) (hz : gZ L mem) (hc : gCl shX L mem) (h0L : ∀ o ∈ L, sz0 ≤ ad o) (hB : ∀ o ∈ L, o < 128 + 32 * q) : ∃ (memN : gMem) (L' : List Nat) (fr lo mc ms : Nat), fr ≤ 5 ∧ lo ≤ 104 ∧ mc ≤ 4 ∧ ms ≤ 36 ∧ WNw n q 4 p1 p2 mem L memN L' ∧ gWz l fr lo mc ms sz0 adK adV D cy ad L L' n q 4 p1 p2 mem memN := by
  have hv : wnr q 4 = 128 + 32 * q + 4 * 4 := rfl
  have hne : ∀ o ∈ L, o ≠ wnr q 4 := fun o ho z => by have := hB o ho; omega
  have hcW : gCl (shW (wnr q 4)) L mem := fun o ho => by rw [shW_n (hne o ho)]; exact hc o ho
  have hzc := z_NW_4 (sh := shW (wnr q 4)) (w := wnr q 4) (p0 := nI n) (p1 := p1) (p2 := p2) (wnr_0 (by decide) (by decide)) wnr_1 (fun z => by have := hB _ z; omega) (fun z => by have := hB _ z; omega) hz hcW
  have hW : WNw n q 4 p1 p2 mem L (i_NW_4 (wnr q 4) (nI n) p1 p2 mem) ((wnr q 4 + 1) :: wnr q 4 :: L) := wn_a (by decide) (by decide) rfl hzc.1 hzc.2
  refine ⟨i_NW_4 (wnr q 4) (nI n) p1 p2 mem, ((wnr q 4 + 1) :: wnr q 4 :: L), 5, 104, 2, 26, by decide, by decide, by decide, by decide, hW, ?_⟩
  obtain ⟨-, -, -, -, -, -, -, u1, u2, u3, u4, u5, u6, u7, u8, u9, u10⟩ := hW
  exact c_Wn (w := wnr q 4) (k := 4) (fr := 4) (lo := 81) (mc := 2) (ms := 26) (by decide) hp1 hp9 hp2 hn hn4 (wnr_s (by decide)) (by omega) (wnr_k (by decide)) (fun z => hne _ z rfl) hL hk hz hc h0L (n_NW_4 (sh := shW (wnr q 4)) (wnr_0 (by decide) (by decide)) wnr_1 (fun z => by have := hB _ z; omega) (fun z => by have := hB _ z; omega) hk hz hcW h0L) u6 u8 u7 u1 u2 u9 u10
theorem c_W5 {l : Launch} {sz0 : Nat} {adK adV : Nat → Nat} {D : va_G} {cy : Nat → ClassId} {ad : Nat → Nat} {L : List Nat} {mem : gMem} {n q : Nat} {p1 p2 : Int32} (hp1 : ¬ p1 < 0) (hp9 : p1 ≤ 9) (hp2 : f_X11_isBoard p2 = some 1) (hn : gI mem 10 3 = nI n) (hn4 : n < 4) (hL : ∀ o ∈ LX0, o ∈ L) (hk : gOk ad L) (hz : gZ L mem) (hc : gCl shX L mem) (h0L : ∀ o ∈ L, sz0 ≤ ad o) (hB : ∀ o ∈ L, o < 128 + 32 * q) : ∃ (memN : gMem) (L' : List Nat) (fr lo mc ms : Nat), fr ≤ 5 ∧ lo ≤ 104 ∧ mc ≤ 4 ∧ ms ≤ 36 ∧ WNw n q 5 p1 p2 mem L memN L' ∧ gWz l fr lo mc ms sz0 adK adV D cy ad L L' n q 5 p1 p2 mem memN := by
  have hv : wnr q 5 = 128 + 32 * q + 4 * 5 := rfl
  have hne : ∀ o ∈ L, o ≠ wnr q 5 := fun o ho z => by have := hB o ho; omega
  have hcW : gCl (shW (wnr q 5)) L mem := fun o ho => by rw [shW_n (hne o ho)]; exact hc o ho
  have hzc := z_NW_5 (sh := shW (wnr q 5)) (w := wnr q 5) (p0 := nI n) (p1 := p1) (p2 := p2) (wnr_0 (by decide) (by decide)) wnr_1 (fun z => by have := hB _ z; omega) (fun z => by have := hB _ z; omega) hz hcW
  have hW : WNw n q 5 p1 p2 mem L (i_NW_5 (wnr q 5) (nI n) p1 p2 mem) ((wnr q 5 + 1) :: wnr q 5 :: L) := wn_a (by decide) (by decide) rfl hzc.1 hzc.2
  refine ⟨i_NW_5 (wnr q 5) (nI n) p1 p2 mem, ((wnr q 5 + 1) :: wnr q 5 :: L), 5, 104, 2, 26, by decide, by decide, by decide, by decide, hW, ?_⟩
  obtain ⟨-, -, -, -, -, -, -, u1, u2, u3, u4, u5, u6, u7, u8, u9, u10⟩ := hW
  exact c_Wn (w := wnr q 5) (k := 5) (fr := 4) (lo := 81) (mc := 2) (ms := 26) (by decide) hp1 hp9 hp2 hn hn4 (wnr_s (by decide)) (by omega) (wnr_k (by decide)) (fun z => hne _ z rfl) hL hk hz hc h0L (n_NW_5 (sh := shW (wnr q 5)) (wnr_0 (by decide) (by decide)) wnr_1 (fun z => by have := hB _ z; omega) (fun z => by have := hB _ z; omega) hk hz hcW h0L) u6 u8 u7 u1 u2 u9 u10
theorem c_W6 {l : Launch} {sz0 : Nat} {adK adV : Nat → Nat} {D : va_G} {cy : Nat → ClassId} {ad : Nat → Nat} {L : List Nat} {mem : gMem} {n q : Nat} {p1 p2 : Int32} (hp1 : ¬ p1 < 0) (hp9 : p1 ≤ 9) (hp2 : f_X11_isBoard p2 = some 1) (hn : gI mem 10 3 = nI n) (hn4 : n < 4) (hL : ∀ o ∈ LX0, o ∈ L) (hk : gOk ad L) (hz : gZ L mem) (hc : gCl shX L mem) (h0L : ∀ o ∈ L, sz0 ≤ ad o) (hB : ∀ o ∈ L, o < 128 + 32 * q) : ∃ (memN : gMem) (L' : List Nat) (fr lo mc ms : Nat), fr ≤ 5 ∧ lo ≤ 104 ∧ mc ≤ 4 ∧ ms ≤ 36 ∧ WNw n q 6 p1 p2 mem L memN L' ∧ gWz l fr lo mc ms sz0 adK adV D cy ad L L' n q 6 p1 p2 mem memN := by
  have hv : wnr q 6 = 128 + 32 * q + 4 * 6 := rfl
  have hne : ∀ o ∈ L, o ≠ wnr q 6 := fun o ho z => by have := hB o ho; omega
  have hcW : gCl (shW (wnr q 6)) L mem := fun o ho => by rw [shW_n (hne o ho)]; exact hc o ho
  have hzc := z_NW_6 (sh := shW (wnr q 6)) (w := wnr q 6) (p0 := nI n) (p1 := p1) (p2 := p2) wnr_6 wnr_1 wnr_2 wnr_3 (fun z => by have := hB _ z; omega) (fun z => by have := hB _ z; omega) (fun z => by have := hB _ z; omega) (fun z => by have := hB _ z; omega) hz hcW
  have hW : WNw n q 6 p1 p2 mem L (i_NW_6 (wnr q 6) (nI n) p1 p2 mem) ((wnr q 6 + 3) :: (wnr q 6 + 2) :: (wnr q 6 + 1) :: wnr q 6 :: L) := wn_b rfl hzc.1 hzc.2
  refine ⟨i_NW_6 (wnr q 6) (nI n) p1 p2 mem, ((wnr q 6 + 3) :: (wnr q 6 + 2) :: (wnr q 6 + 1) :: wnr q 6 :: L), 5, 104, 4, 36, by decide, by decide, by decide, by decide, hW, ?_⟩
  obtain ⟨-, -, -, -, -, -, -, u1, u2, u3, u4, u5, u6, u7, u8, u9, u10⟩ := hW
  exact c_Wn (w := wnr q 6) (k := 6) (fr := 4) (lo := 81) (mc := 4) (ms := 36) (by decide) hp1 hp9 hp2 hn hn4 (wnr_s (by decide)) (by omega) (wnr_k (by decide)) (fun z => hne _ z rfl) hL hk hz hc h0L (n_NW_6 (sh := shW (wnr q 6)) wnr_6 wnr_1 wnr_2 wnr_3 (fun z => by have := hB _ z; omega) (fun z => by have := hB _ z; omega) (fun z => by have := hB _ z; omega) (fun z => by have := hB _ z; omega) hk hz hcW h0L) u6 u8 u7 u1 u2 u9 u10
theorem c_walk {l : Launch} {sz0 : Nat} {adK adV : Nat → Nat} {D : va_G} {cy : Nat → ClassId} {ad : Nat → Nat} {L : List Nat} {mem : gMem} {n q k : Nat} {p1 p2 : Int32} (hk7 : k < 7) (hp1 : ¬ p1 < 0) (hp9 : p1 ≤ 9) (hp2 : f_X11_isBoard p2 = some 1) (hn : gI mem 10 3 = nI n) (hn4 : n < 4) (hL : ∀ o ∈ LX0, o ∈ L) (hk : gOk ad L) (hz : gZ L mem) (hc : gCl shX L mem) (h0L : ∀ o ∈ L, sz0 ≤ ad o) (hB : ∀ o ∈ L, o < 128 + 32 * q) : ∃ (memN : gMem) (L' : List Nat) (fr lo mc ms : Nat), fr ≤ 5 ∧ lo ≤ 104 ∧ mc ≤ 4 ∧ ms ≤ 36 ∧ WNw n q k p1 p2 mem L memN L' ∧ gWz l fr lo mc ms sz0 adK adV D cy ad L L' n q k p1 p2 mem memN := by
  rcases (show k = 0 ∨ k = 1 ∨ k = 2 ∨ k = 3 ∨ k = 4 ∨ k = 5 ∨ k = 6 by omega) with rfl | rfl | rfl | rfl | rfl | rfl | rfl
  · exact c_W0 hp1 hp9 hp2 hn hn4 hL hk hz hc h0L hB
  · exact c_W1 hp1 hp9 hp2 hn hn4 hL hk hz hc h0L hB
  · exact c_W2 hp1 hp9 hp2 hn hn4 hL hk hz hc h0L hB
  · exact c_W3 hp1 hp9 hp2 hn hn4 hL hk hz hc h0L hB
  · exact c_W4 hp1 hp9 hp2 hn hn4 hL hk hz hc h0L hB
  · exact c_W5 hp1 hp9 hp2 hn hn4 hL hk hz hc h0L hB
  · exact c_W6 hp1 hp9 hp2 hn hn4 hL hk hz hc h0L hB

/-! the law, case by case: the other half -/
theorem law_20 {p : Program} {l : Launch} {e : Env} {s : State} {m : MethodId} {args : Array Value} {below : List Frame} {meth : Method} {c : Code} {H : Heap} {locs : List Loc} {cells slots : Nat} {Q : State → Prop} {ls : Array Slot} {D : va_G} {cy : Nat → ClassId} {adK adV : Nat → Nat} {ax am b len i : Nat} {xs : Nat → Int32} (hC : gC p s m args meth c cL_law 4 RL D cy) (hEs : EZ s.heap.size adK adV s) (hXs : va_X b len xs s s.heap) (hbl : b < s.heap.size) (hlen : len ≤ 3072) (hi : i + 6 ≤ len) (hcl : cells + 4 ≤ 600000) (hsl : slots + 40 ≤ 7302250) (hS : LSt D cy s ax am H locs) (hl : lv_has ls 4 [(3, .int (nI i)), (2, .ref am), (1, .ref ax), (0, .ref b)]) (kk : ∀ (H1 : Heap) (locs1 : List Loc), LSt D cy s ax am H1 locs1 → W p l e room_1 s m args below meth c H1 locs1 (cells + 4) (slots + 40) Q (F0 m 1396 ls [])) : W p l e room_1 s m args below meth c H locs cells slots Q (F0 m 780 ls []) := by
  obtain ⟨adX, LX, x, W1, N, q, adM, mm, hH, hax, ham, hR, hq, hs, hl0, hB⟩ := hS
  have hXE : gX (fun q => s.heap.size ≤ q) s (EZ s.heap.size adK adV) := EZ_X (fun _ h => h) hEs
  have hEX := EZ_ok (adK := adK) (adV := adV) hH.2.2.2.2.2.1
  have hEM := EZ_ok (adK := adK) (adV := adV) hH.2.2.2.2.2.2.1
  obtain ⟨r, x1, mm1, ex, em, hR1⟩ := op_from hR (xs (i + 1))
  refine lv_aload_n hC.x hC.b dL_law_780 rfl (lv_at hl 2 rfl) ?_
  refine L_arg (pc := 781) (k := 1) (n := 1) hC hXs hbl hH.2.2.2.2.2.2.2 hl rfl dL_law_781 dL_law_782 dL_law_783 dL_law_784 dL_law_785 (by omega) hlen ?_
  refine L_X (R := room_1) (cells := cells) (slots := slots) (As := [.int (xs (i + 1))]) (rest := []) (q := (RX11, TX11, 13)) hC hXE EZ_bl hH hax (hl0 _ mX0) (c_X11_from (l := l) hH.2.2.1 hl0 hEX ex) kw950 kw951 kw952 kw2 kw953 aL_X11_from.1 aL_X11_from.2 rfl rfl hl.1 ⟨Nat.le_of_ble_eq_true rfl, Nat.le_of_ble_eq_true rfl, (by show cells ≤ 600000; omega), (by show slots ≤ 7302250; omega)⟩ (Nat.le_of_ble_eq_true rfl) dL_law_786 (fun H locs hH => ?_)
  refine lv_aload_n hC.x hC.b dL_law_789 rfl (lv_at hl 1 rfl) ?_
  refine L_arg (pc := 790) (k := 1) (n := 1) hC hXs hbl hH.2.2.2.2.2.2.2 hl rfl dL_law_790 dL_law_791 dL_law_792 dL_law_793 dL_law_794 (by omega) hlen ?_
  refine L_M (R := room_1) (cells := cells) (slots := slots) (As := [.int (xs (i + 1))]) (rest := [.int r]) (q := (RX12, TX12, 74)) hC hXE EZ_bl hH ham (c_X12_from (l := l) hH.2.2.2.1 lmf_M0 hEM em) kw954 kw955 kw956 kw5 kw957 aL_X12_from.1 aL_X12_from.2 rfl rfl hl.1 ⟨Nat.le_of_ble_eq_true rfl, Nat.le_of_ble_eq_true rfl, (by show cells ≤ 600000; omega), (by show slots ≤ 7302250; omega)⟩ (Nat.le_of_ble_eq_true rfl) dL_law_795 (fun H locs hH => ?_)
  refine lv_icmp_eq (tgt := 1396) hC.x hC.b dL_law_798 (by decide) (fun _ => ?_) (fun z => absurd rfl z)
  refine W.widen (k := cells + 4) (n := slots + 40) (by omega) (by omega) ?_
  exact kk _ _ ⟨adX, LX, x1, W1, N, q, adM, mm1, hH, hax, ham, hR1, q_X11_from hl0 hq _ _ ex, hs, hl0, hB⟩
theorem law_21 {p : Program} {l : Launch} {e : Env} {s : State} {m : MethodId} {args : Array Value} {below : List Frame} {meth : Method} {c : Code} {H : Heap} {locs : List Loc} {cells slots : Nat} {Q : State → Prop} {ls : Array Slot} {D : va_G} {cy : Nat → ClassId} {adK adV : Nat → Nat} {ax am b len i : Nat} {xs : Nat → Int32} (hC : gC p s m args meth c cL_law 4 RL D cy) (hEs : EZ s.heap.size adK adV s) (hXs : va_X b len xs s s.heap) (hbl : b < s.heap.size) (hlen : len ≤ 3072) (hi : i + 6 ≤ len) (hcl : cells + 4 ≤ 600000) (hsl : slots + 40 ≤ 7302250) (hS : LSt D cy s ax am H locs) (hl : lv_has ls 4 [(3, .int (nI i)), (2, .ref am), (1, .ref ax), (0, .ref b)]) (kk : ∀ (H1 : Heap) (locs1 : List Loc), LSt D cy s ax am H1 locs1 → W p l e room_1 s m args below meth c H1 locs1 (cells + 4) (slots + 40) Q (F0 m 1396 ls [])) : W p l e room_1 s m args below meth c H locs cells slots Q (F0 m 803 ls []) := by
  obtain ⟨adX, LX, x, W1, N, q, adM, mm, hH, hax, ham, hR, hq, hs, hl0, hB⟩ := hS
  have hXE : gX (fun q => s.heap.size ≤ q) s (EZ s.heap.size adK adV) := EZ_X (fun _ h => h) hEs
  have hEX := EZ_ok (adK := adK) (adV := adV) hH.2.2.2.2.2.1
  have hEM := EZ_ok (adK := adK) (adV := adV) hH.2.2.2.2.2.2.1
  obtain ⟨r, x1, mm1, ex, em, hR1⟩ := op_deeper hR (xs (i + 1))
  refine lv_aload_n hC.x hC.b dL_law_803 rfl (lv_at hl 2 rfl) ?_
  refine L_arg (pc := 804) (k := 1) (n := 1) hC hXs hbl hH.2.2.2.2.2.2.2 hl rfl dL_law_804 dL_law_805 dL_law_806 dL_law_807 dL_law_808 (by omega) hlen ?_
  refine L_X (R := room_1) (cells := cells) (slots := slots) (As := [.int (xs (i + 1))]) (rest := []) (q := (RX11, TX11, 13)) hC hXE EZ_bl hH hax (hl0 _ mX0) (c_X11_deeper (l := l) hH.2.2.1 hl0 hEX ex) kw958 kw959 kw960 kw2 kw961 aL_X11_deeper.1 aL_X11_deeper.2 rfl rfl hl.1 ⟨Nat.le_of_ble_eq_true rfl, Nat.le_of_ble_eq_true rfl, (by show cells ≤ 600000; omega), (by show slots ≤ 7302250; omega)⟩ (Nat.le_of_ble_eq_true rfl) dL_law_809 (fun H locs hH => ?_)
  refine lv_aload_n hC.x hC.b dL_law_812 rfl (lv_at hl 1 rfl) ?_
  refine L_arg (pc := 813) (k := 1) (n := 1) hC hXs hbl hH.2.2.2.2.2.2.2 hl rfl dL_law_813 dL_law_814 dL_law_815 dL_law_816 dL_law_817 (by omega) hlen ?_
  refine L_M (R := room_1) (cells := cells) (slots := slots) (As := [.int (xs (i + 1))]) (rest := [.int r]) (q := (RX12, TX12, 74)) hC hXE EZ_bl hH ham (c_X12_deeper (l := l) hH.2.2.2.1 lmf_M0 hEM em) kw962 kw963 kw964 kw5 kw965 aL_X12_deeper.1 aL_X12_deeper.2 rfl rfl hl.1 ⟨Nat.le_of_ble_eq_true rfl, Nat.le_of_ble_eq_true rfl, (by show cells ≤ 600000; omega), (by show slots ≤ 7302250; omega)⟩ (Nat.le_of_ble_eq_true rfl) dL_law_818 (fun H locs hH => ?_)
  refine lv_icmp_eq (tgt := 1396) hC.x hC.b dL_law_821 (by decide) (fun _ => ?_) (fun z => absurd rfl z)
  refine W.widen (k := cells + 4) (n := slots + 40) (by omega) (by omega) ?_
  exact kk _ _ ⟨adX, LX, x1, W1, N, q, adM, mm1, hH, hax, ham, hR1, q_X11_deeper hl0 hq _ _ ex, hs, hl0, hB⟩
theorem law_22 {p : Program} {l : Launch} {e : Env} {s : State} {m : MethodId} {args : Array Value} {below : List Frame} {meth : Method} {c : Code} {H : Heap} {locs : List Loc} {cells slots : Nat} {Q : State → Prop} {ls : Array Slot} {D : va_G} {cy : Nat → ClassId} {adK adV : Nat → Nat} {ax am b len i : Nat} {xs : Nat → Int32} (hC : gC p s m args meth c cL_law 4 RL D cy) (hEs : EZ s.heap.size adK adV s) (hXs : va_X b len xs s s.heap) (hbl : b < s.heap.size) (hlen : len ≤ 3072) (hi : i + 6 ≤ len) (hcl : cells + 4 ≤ 600000) (hsl : slots + 40 ≤ 7302250) (hS : LSt D cy s ax am H locs) (hl : lv_has ls 4 [(3, .int (nI i)), (2, .ref am), (1, .ref ax), (0, .ref b)]) (kk : ∀ (H1 : Heap) (locs1 : List Loc), LSt D cy s ax am H1 locs1 → W p l e room_1 s m args below meth c H1 locs1 (cells + 4) (slots + 40) Q (F0 m 1396 ls [])) : W p l e room_1 s m args below meth c H locs cells slots Q (F0 m 826 ls []) := by
  obtain ⟨adX, LX, x, W1, N, q, adM, mm, hH, hax, ham, hR, hq, hs, hl0, hB⟩ := hS
  have hXE : gX (fun q => s.heap.size ≤ q) s (EZ s.heap.size adK adV) := EZ_X (fun _ h => h) hEs
  have hEX := EZ_ok (adK := adK) (adV := adV) hH.2.2.2.2.2.1
  have hEM := EZ_ok (adK := adK) (adV := adV) hH.2.2.2.2.2.2.1
  by_cases hz : xs (i + 3) = 0
  · obtain ⟨r, x1, mm1, ex, em, hR1⟩ := op_see hR (xs (i + 1)) (xs (i + 2)) (0 : Int32) (Or.inl rfl)
    refine lv_aload_n hC.x hC.b dL_law_826 rfl (lv_at hl 2 rfl) ?_
    refine L_arg (pc := 827) (k := 1) (n := 1) hC hXs hbl hH.2.2.2.2.2.2.2 hl rfl dL_law_827 dL_law_828 dL_law_829 dL_law_830 dL_law_831 (by omega) hlen ?_
    refine L_arg (pc := 832) (k := 2) (n := 2) hC hXs hbl hH.2.2.2.2.2.2.2 hl rfl dL_law_832 dL_law_833 dL_law_834 dL_law_835 dL_law_836 (by omega) hlen ?_
    refine L_arg (pc := 837) (k := 3) (n := 3) hC hXs hbl hH.2.2.2.2.2.2.2 hl rfl dL_law_837 dL_law_838 dL_law_839 dL_law_840 dL_law_841 (by omega) hlen ?_
    refine lv_if_eq (tgt := 849) hC.x hC.b dL_law_842 (by decide) (fun _ => ?_) (fun z => absurd hz z)
    refine lv_iconst (v := (0 : Int32)) hC.x hC.b dL_law_849 rfl ?_
    refine L_X (R := room_1) (cells := cells) (slots := slots) (As := [.int (xs (i + 1)), .int (xs (i + 2)), .int (0 : Int32)]) (rest := []) (q := (RX11, TX11, 13)) hC hXE EZ_bl hH hax (hl0 _ mX0) (c_X11_see (l := l) hH.2.2.1 hl0 hEX ex) kw966 kw967 kw968 kw2 kw969 aL_X11_see.1 aL_X11_see.2 rfl rfl hl.1 ⟨Nat.le_of_ble_eq_true rfl, Nat.le_of_ble_eq_true rfl, (by show cells ≤ 600000; omega), (by show slots ≤ 7302250; omega)⟩ (Nat.le_of_ble_eq_true rfl) dL_law_850 (fun H locs hH => ?_)
    refine lv_aload_n hC.x hC.b dL_law_853 rfl (lv_at hl 1 rfl) ?_
    refine L_arg (pc := 854) (k := 1) (n := 1) hC hXs hbl hH.2.2.2.2.2.2.2 hl rfl dL_law_854 dL_law_855 dL_law_856 dL_law_857 dL_law_858 (by omega) hlen ?_
    refine L_arg (pc := 859) (k := 2) (n := 2) hC hXs hbl hH.2.2.2.2.2.2.2 hl rfl dL_law_859 dL_law_860 dL_law_861 dL_law_862 dL_law_863 (by omega) hlen ?_
    refine L_arg (pc := 864) (k := 3) (n := 3) hC hXs hbl hH.2.2.2.2.2.2.2 hl rfl dL_law_864 dL_law_865 dL_law_866 dL_law_867 dL_law_868 (by omega) hlen ?_
    refine lv_if_eq (tgt := 876) hC.x hC.b dL_law_869 (by decide) (fun _ => ?_) (fun z => absurd hz z)
    refine lv_iconst (v := (0 : Int32)) hC.x hC.b dL_law_876 rfl ?_
    refine L_M (R := room_1) (cells := cells) (slots := slots) (As := [.int (xs (i + 1)), .int (xs (i + 2)), .int (0 : Int32)]) (rest := [.int r]) (q := (RX12, TX12, 74)) hC hXE EZ_bl hH ham (c_X12_see (l := l) hH.2.2.2.1 lmf_M0 hEM em) kw974 kw975 kw976 kw5 kw977 aL_X12_see.1 aL_X12_see.2 rfl rfl hl.1 ⟨Nat.le_of_ble_eq_true rfl, Nat.le_of_ble_eq_true rfl, (by show cells ≤ 600000; omega), (by show slots ≤ 7302250; omega)⟩ (Nat.le_of_ble_eq_true rfl) dL_law_877 (fun H locs hH => ?_)
    refine lv_icmp_eq (tgt := 1396) hC.x hC.b dL_law_880 (by decide) (fun _ => ?_) (fun z => absurd rfl z)
    refine W.widen (k := cells + 4) (n := slots + 40) (by omega) (by omega) ?_
    exact kk _ _ ⟨adX, LX, x1, W1, N, q, adM, mm1, hH, hax, ham, hR1, q_X11_see hl0 hq _ _ ex, hs, hl0, hB⟩
  · obtain ⟨r, x1, mm1, ex, em, hR1⟩ := op_see hR (xs (i + 1)) (xs (i + 2)) (1 : Int32) (Or.inr rfl)
    refine lv_aload_n hC.x hC.b dL_law_826 rfl (lv_at hl 2 rfl) ?_
    refine L_arg (pc := 827) (k := 1) (n := 1) hC hXs hbl hH.2.2.2.2.2.2.2 hl rfl dL_law_827 dL_law_828 dL_law_829 dL_law_830 dL_law_831 (by omega) hlen ?_
    refine L_arg (pc := 832) (k := 2) (n := 2) hC hXs hbl hH.2.2.2.2.2.2.2 hl rfl dL_law_832 dL_law_833 dL_law_834 dL_law_835 dL_law_836 (by omega) hlen ?_
    refine L_arg (pc := 837) (k := 3) (n := 3) hC hXs hbl hH.2.2.2.2.2.2.2 hl rfl dL_law_837 dL_law_838 dL_law_839 dL_law_840 dL_law_841 (by omega) hlen ?_
    refine lv_if_eq (tgt := 849) hC.x hC.b dL_law_842 (by decide) (fun z => absurd z hz) (fun _ => ?_)
    refine lv_iconst (v := (1 : Int32)) hC.x hC.b dL_law_845 rfl ?_
    refine lv_goto (tgt := 850) hC.x hC.b dL_law_846 (by decide) ?_
    refine L_X (R := room_1) (cells := cells) (slots := slots) (As := [.int (xs (i + 1)), .int (xs (i + 2)), .int (1 : Int32)]) (rest := []) (q := (RX11, TX11, 13)) hC hXE EZ_bl hH hax (hl0 _ mX0) (c_X11_see (l := l) hH.2.2.1 hl0 hEX ex) kw966 kw967 kw968 kw2 kw969 aL_X11_see.1 aL_X11_see.2 rfl rfl hl.1 ⟨Nat.le_of_ble_eq_true rfl, Nat.le_of_ble_eq_true rfl, (by show cells ≤ 600000; omega), (by show slots ≤ 7302250; omega)⟩ (Nat.le_of_ble_eq_true rfl) dL_law_850 (fun H locs hH => ?_)
    refine lv_aload_n hC.x hC.b dL_law_853 rfl (lv_at hl 1 rfl) ?_
    refine L_arg (pc := 854) (k := 1) (n := 1) hC hXs hbl hH.2.2.2.2.2.2.2 hl rfl dL_law_854 dL_law_855 dL_law_856 dL_law_857 dL_law_858 (by omega) hlen ?_
    refine L_arg (pc := 859) (k := 2) (n := 2) hC hXs hbl hH.2.2.2.2.2.2.2 hl rfl dL_law_859 dL_law_860 dL_law_861 dL_law_862 dL_law_863 (by omega) hlen ?_
    refine L_arg (pc := 864) (k := 3) (n := 3) hC hXs hbl hH.2.2.2.2.2.2.2 hl rfl dL_law_864 dL_law_865 dL_law_866 dL_law_867 dL_law_868 (by omega) hlen ?_
    refine lv_if_eq (tgt := 876) hC.x hC.b dL_law_869 (by decide) (fun z => absurd z hz) (fun _ => ?_)
    refine lv_iconst (v := (1 : Int32)) hC.x hC.b dL_law_872 rfl ?_
    refine lv_goto (tgt := 877) hC.x hC.b dL_law_873 (by decide) ?_
    refine L_M (R := room_1) (cells := cells) (slots := slots) (As := [.int (xs (i + 1)), .int (xs (i + 2)), .int (1 : Int32)]) (rest := [.int r]) (q := (RX12, TX12, 74)) hC hXE EZ_bl hH ham (c_X12_see (l := l) hH.2.2.2.1 lmf_M0 hEM em) kw974 kw975 kw976 kw5 kw977 aL_X12_see.1 aL_X12_see.2 rfl rfl hl.1 ⟨Nat.le_of_ble_eq_true rfl, Nat.le_of_ble_eq_true rfl, (by show cells ≤ 600000; omega), (by show slots ≤ 7302250; omega)⟩ (Nat.le_of_ble_eq_true rfl) dL_law_877 (fun H locs hH => ?_)
    refine lv_icmp_eq (tgt := 1396) hC.x hC.b dL_law_880 (by decide) (fun _ => ?_) (fun z => absurd rfl z)
    refine W.widen (k := cells + 4) (n := slots + 40) (by omega) (by omega) ?_
    exact kk _ _ ⟨adX, LX, x1, W1, N, q, adM, mm1, hH, hax, ham, hR1, q_X11_see hl0 hq _ _ ex, hs, hl0, hB⟩
theorem law_23 {p : Program} {l : Launch} {e : Env} {s : State} {m : MethodId} {args : Array Value} {below : List Frame} {meth : Method} {c : Code} {H : Heap} {locs : List Loc} {cells slots : Nat} {Q : State → Prop} {ls : Array Slot} {D : va_G} {cy : Nat → ClassId} {adK adV : Nat → Nat} {ax am b len i : Nat} {xs : Nat → Int32} (hC : gC p s m args meth c cL_law 4 RL D cy) (hEs : EZ s.heap.size adK adV s) (hXs : va_X b len xs s s.heap) (hbl : b < s.heap.size) (hlen : len ≤ 3072) (hi : i + 6 ≤ len) (hcl : cells + 4 ≤ 600000) (hsl : slots + 40 ≤ 7302250) (hS : LSt D cy s ax am H locs) (hl : lv_has ls 4 [(3, .int (nI i)), (2, .ref am), (1, .ref ax), (0, .ref b)]) (kk : ∀ (H1 : Heap) (locs1 : List Loc), LSt D cy s ax am H1 locs1 → W p l e room_1 s m args below meth c H1 locs1 (cells + 4) (slots + 40) Q (F0 m 1396 ls [])) : W p l e room_1 s m args below meth c H locs cells slots Q (F0 m 885 ls []) := by
  obtain ⟨adX, LX, x, W1, N, q, adM, mm, hH, hax, ham, hR, hq, hs, hl0, hB⟩ := hS
  have hXE : gX (fun q => s.heap.size ≤ q) s (EZ s.heap.size adK adV) := EZ_X (fun _ h => h) hEs
  have hEX := EZ_ok (adK := adK) (adV := adV) hH.2.2.2.2.2.1
  have hEM := EZ_ok (adK := adK) (adV := adV) hH.2.2.2.2.2.2.1
  obtain ⟨r, x1, mm1, ex, em, hR1⟩ := op_who hR 
  refine lv_aload_n hC.x hC.b dL_law_885 rfl (lv_at hl 2 rfl) ?_
  refine L_X (R := room_1) (cells := cells) (slots := slots) (As := []) (rest := []) (q := (RX11, TX11, 13)) hC hXE EZ_bl hH hax (hl0 _ mX0) (c_X11_who (l := l) hH.2.2.1 hl0 hEX ex) kw978 kw979 kw980 kw2 kw981 aL_X11_who.1 aL_X11_who.2 rfl rfl hl.1 ⟨Nat.le_of_ble_eq_true rfl, Nat.le_of_ble_eq_true rfl, (by show cells ≤ 600000; omega), (by show slots ≤ 7302250; omega)⟩ (Nat.le_of_ble_eq_true rfl) dL_law_886 (fun H locs hH => ?_)
  refine lv_aload_n hC.x hC.b dL_law_889 rfl (lv_at hl 1 rfl) ?_
  refine L_M (R := room_1) (cells := cells) (slots := slots) (As := []) (rest := [.int r]) (q := (RX12, TX12, 74)) hC hXE EZ_bl hH ham (c_X12_who (l := l) hH.2.2.2.1 lmf_M0 hEM em) kw990 kw991 kw992 kw5 kw993 aL_X12_who.1 aL_X12_who.2 rfl rfl hl.1 ⟨Nat.le_of_ble_eq_true rfl, Nat.le_of_ble_eq_true rfl, (by show cells ≤ 600000; omega), (by show slots ≤ 7302250; omega)⟩ (Nat.le_of_ble_eq_true rfl) dL_law_890 (fun H locs hH => ?_)
  refine lv_icmp_eq (tgt := 1396) hC.x hC.b dL_law_893 (by decide) (fun _ => ?_) (fun z => absurd rfl z)
  refine W.widen (k := cells + 4) (n := slots + 40) (by omega) (by omega) ?_
  exact kk _ _ ⟨adX, LX, x1, W1, N, q, adM, mm1, hH, hax, ham, hR1, q_X11_who hl0 hq _ _ ex, hs, hl0, hB⟩
theorem law_24 {p : Program} {l : Launch} {e : Env} {s : State} {m : MethodId} {args : Array Value} {below : List Frame} {meth : Method} {c : Code} {H : Heap} {locs : List Loc} {cells slots : Nat} {Q : State → Prop} {ls : Array Slot} {D : va_G} {cy : Nat → ClassId} {adK adV : Nat → Nat} {ax am b len i : Nat} {xs : Nat → Int32} (hC : gC p s m args meth c cL_law 4 RL D cy) (hEs : EZ s.heap.size adK adV s) (hXs : va_X b len xs s s.heap) (hbl : b < s.heap.size) (hlen : len ≤ 3072) (hi : i + 6 ≤ len) (hcl : cells + 4 ≤ 600000) (hsl : slots + 40 ≤ 7302250) (hS : LSt D cy s ax am H locs) (hl : lv_has ls 4 [(3, .int (nI i)), (2, .ref am), (1, .ref ax), (0, .ref b)]) (kk : ∀ (H1 : Heap) (locs1 : List Loc), LSt D cy s ax am H1 locs1 → W p l e room_1 s m args below meth c H1 locs1 (cells + 4) (slots + 40) Q (F0 m 1396 ls [])) : W p l e room_1 s m args below meth c H locs cells slots Q (F0 m 898 ls []) := by
  obtain ⟨adX, LX, x, W1, N, q, adM, mm, hH, hax, ham, hR, hq, hs, hl0, hB⟩ := hS
  have hXE : gX (fun q => s.heap.size ≤ q) s (EZ s.heap.size adK adV) := EZ_X (fun _ h => h) hEs
  have hEX := EZ_ok (adK := adK) (adV := adV) hH.2.2.2.2.2.1
  have hEM := EZ_ok (adK := adK) (adV := adV) hH.2.2.2.2.2.2.1
  obtain ⟨r, x1, mm1, ex, em, hR1⟩ := op_odds hR (xs (i + 1)) (xs (i + 2))
  refine lv_aload_n hC.x hC.b dL_law_898 rfl (lv_at hl 2 rfl) ?_
  refine L_arg (pc := 899) (k := 1) (n := 1) hC hXs hbl hH.2.2.2.2.2.2.2 hl rfl dL_law_899 dL_law_900 dL_law_901 dL_law_902 dL_law_903 (by omega) hlen ?_
  refine L_arg (pc := 904) (k := 2) (n := 2) hC hXs hbl hH.2.2.2.2.2.2.2 hl rfl dL_law_904 dL_law_905 dL_law_906 dL_law_907 dL_law_908 (by omega) hlen ?_
  refine L_X (R := room_1) (cells := cells) (slots := slots) (As := [.int (xs (i + 1)), .int (xs (i + 2))]) (rest := []) (q := (RX11, TX11, 13)) hC hXE EZ_bl hH hax (hl0 _ mX0) (c_X11_odds (l := l) hH.2.2.1 hl0 hEX ex) kw994 kw995 kw996 kw2 kw997 aL_X11_odds.1 aL_X11_odds.2 rfl rfl hl.1 ⟨Nat.le_of_ble_eq_true rfl, Nat.le_of_ble_eq_true rfl, (by show cells ≤ 600000; omega), (by show slots ≤ 7302250; omega)⟩ (Nat.le_of_ble_eq_true rfl) dL_law_909 (fun H locs hH => ?_)
  refine lv_aload_n hC.x hC.b dL_law_912 rfl (lv_at hl 1 rfl) ?_
  refine L_arg (pc := 913) (k := 1) (n := 1) hC hXs hbl hH.2.2.2.2.2.2.2 hl rfl dL_law_913 dL_law_914 dL_law_915 dL_law_916 dL_law_917 (by omega) hlen ?_
  refine L_arg (pc := 918) (k := 2) (n := 2) hC hXs hbl hH.2.2.2.2.2.2.2 hl rfl dL_law_918 dL_law_919 dL_law_920 dL_law_921 dL_law_922 (by omega) hlen ?_
  refine L_M (R := room_1) (cells := cells) (slots := slots) (As := [.int (xs (i + 1)), .int (xs (i + 2))]) (rest := [.long r]) (q := (RX12, TX12, 74)) hC hXE EZ_bl hH ham (c_X12_odds (l := l) hH.2.2.2.1 lmf_M0 hEM em) kw1002 kw1003 kw1004 kw5 kw1005 aL_X12_odds.1 aL_X12_odds.2 rfl rfl hl.1 ⟨Nat.le_of_ble_eq_true rfl, Nat.le_of_ble_eq_true rfl, (by show cells ≤ 600000; omega), (by show slots ≤ 7302250; omega)⟩ (Nat.le_of_ble_eq_true rfl) dL_law_923 (fun H locs hH => ?_)
  refine W.lcmp hC.x hC.b dL_law_926 ?_
  rw [lg_self]
  refine lv_if_eq (tgt := 1396) hC.x hC.b dL_law_927 (by decide) (fun _ => ?_) (fun z => absurd rfl z)
  refine W.widen (k := cells + 4) (n := slots + 40) (by omega) (by omega) ?_
  exact kk _ _ ⟨adX, LX, x1, W1, N, q, adM, mm1, hH, hax, ham, hR1, q_X11_odds hl0 hq _ _ ex, hs, hl0, hB⟩
theorem law_25 {p : Program} {l : Launch} {e : Env} {s : State} {m : MethodId} {args : Array Value} {below : List Frame} {meth : Method} {c : Code} {H : Heap} {locs : List Loc} {cells slots : Nat} {Q : State → Prop} {ls : Array Slot} {D : va_G} {cy : Nat → ClassId} {adK adV : Nat → Nat} {ax am b len i : Nat} {xs : Nat → Int32} (hC : gC p s m args meth c cL_law 4 RL D cy) (hEs : EZ s.heap.size adK adV s) (hXs : va_X b len xs s s.heap) (hbl : b < s.heap.size) (hlen : len ≤ 3072) (hi : i + 6 ≤ len) (hcl : cells + 4 ≤ 600000) (hsl : slots + 40 ≤ 7302250) (hS : LSt D cy s ax am H locs) (hl : lv_has ls 4 [(3, .int (nI i)), (2, .ref am), (1, .ref ax), (0, .ref b)]) (kk : ∀ (H1 : Heap) (locs1 : List Loc), LSt D cy s ax am H1 locs1 → W p l e room_1 s m args below meth c H1 locs1 (cells + 4) (slots + 40) Q (F0 m 1396 ls [])) : W p l e room_1 s m args below meth c H locs cells slots Q (F0 m 932 ls []) := by
  obtain ⟨adX, LX, x, W1, N, q, adM, mm, hH, hax, ham, hR, hq, hs, hl0, hB⟩ := hS
  have hXE : gX (fun q => s.heap.size ≤ q) s (EZ s.heap.size adK adV) := EZ_X (fun _ h => h) hEs
  have hEX := EZ_ok (adK := adK) (adV := adV) hH.2.2.2.2.2.1
  have hEM := EZ_ok (adK := adK) (adV := adV) hH.2.2.2.2.2.2.1
  obtain ⟨r, x1, mm1, ex, em, hR1⟩ := op_mean hR (xs (i + 1)) (xs (i + 2))
  refine lv_aload_n hC.x hC.b dL_law_932 rfl (lv_at hl 2 rfl) ?_
  refine L_arg (pc := 933) (k := 1) (n := 1) hC hXs hbl hH.2.2.2.2.2.2.2 hl rfl dL_law_933 dL_law_934 dL_law_935 dL_law_936 dL_law_937 (by omega) hlen ?_
  refine L_arg (pc := 938) (k := 2) (n := 2) hC hXs hbl hH.2.2.2.2.2.2.2 hl rfl dL_law_938 dL_law_939 dL_law_940 dL_law_941 dL_law_942 (by omega) hlen ?_
  refine L_X (R := room_1) (cells := cells) (slots := slots) (As := [.int (xs (i + 1)), .int (xs (i + 2))]) (rest := []) (q := (RX11, TX11, 13)) hC hXE EZ_bl hH hax (hl0 _ mX0) (c_X11_mean (l := l) hH.2.2.1 hl0 hEX ex) kw1015 kw1016 kw1017 kw2 kw1018 aL_X11_mean.1 aL_X11_mean.2 rfl rfl hl.1 ⟨Nat.le_of_ble_eq_true rfl, Nat.le_of_ble_eq_true rfl, (by show cells ≤ 600000; omega), (by show slots ≤ 7302250; omega)⟩ (Nat.le_of_ble_eq_true rfl) dL_law_943 (fun H locs hH => ?_)
  refine lv_aload_n hC.x hC.b dL_law_946 rfl (lv_at hl 1 rfl) ?_
  refine L_arg (pc := 947) (k := 1) (n := 1) hC hXs hbl hH.2.2.2.2.2.2.2 hl rfl dL_law_947 dL_law_948 dL_law_949 dL_law_950 dL_law_951 (by omega) hlen ?_
  refine L_arg (pc := 952) (k := 2) (n := 2) hC hXs hbl hH.2.2.2.2.2.2.2 hl rfl dL_law_952 dL_law_953 dL_law_954 dL_law_955 dL_law_956 (by omega) hlen ?_
  refine L_M (R := room_1) (cells := cells) (slots := slots) (As := [.int (xs (i + 1)), .int (xs (i + 2))]) (rest := [.long r]) (q := (RX12, TX12, 74)) hC hXE EZ_bl hH ham (c_X12_mean (l := l) hH.2.2.2.1 lmf_M0 hEM em) kw1019 kw1020 kw1021 kw5 kw1022 aL_X12_mean.1 aL_X12_mean.2 rfl rfl hl.1 ⟨Nat.le_of_ble_eq_true rfl, Nat.le_of_ble_eq_true rfl, (by show cells ≤ 600000; omega), (by show slots ≤ 7302250; omega)⟩ (Nat.le_of_ble_eq_true rfl) dL_law_957 (fun H locs hH => ?_)
  refine W.lcmp hC.x hC.b dL_law_960 ?_
  rw [lg_self]
  refine lv_if_eq (tgt := 1396) hC.x hC.b dL_law_961 (by decide) (fun _ => ?_) (fun z => absurd rfl z)
  refine W.widen (k := cells + 4) (n := slots + 40) (by omega) (by omega) ?_
  exact kk _ _ ⟨adX, LX, x1, W1, N, q, adM, mm1, hH, hax, ham, hR1, q_X11_mean hl0 hq _ _ ex, hs, hl0, hB⟩
theorem law_26 {p : Program} {l : Launch} {e : Env} {s : State} {m : MethodId} {args : Array Value} {below : List Frame} {meth : Method} {c : Code} {H : Heap} {locs : List Loc} {cells slots : Nat} {Q : State → Prop} {ls : Array Slot} {D : va_G} {cy : Nat → ClassId} {adK adV : Nat → Nat} {ax am b len i : Nat} {xs : Nat → Int32} (hC : gC p s m args meth c cL_law 4 RL D cy) (hEs : EZ s.heap.size adK adV s) (hXs : va_X b len xs s s.heap) (hbl : b < s.heap.size) (hlen : len ≤ 3072) (hi : i + 6 ≤ len) (hcl : cells + 4 ≤ 600000) (hsl : slots + 40 ≤ 7302250) (hS : LSt D cy s ax am H locs) (hl : lv_has ls 4 [(3, .int (nI i)), (2, .ref am), (1, .ref ax), (0, .ref b)]) (kk : ∀ (H1 : Heap) (locs1 : List Loc), LSt D cy s ax am H1 locs1 → W p l e room_1 s m args below meth c H1 locs1 (cells + 4) (slots + 40) Q (F0 m 1396 ls [])) : W p l e room_1 s m args below meth c H locs cells slots Q (F0 m 966 ls []) := by
  obtain ⟨adX, LX, x, W1, N, q, adM, mm, hH, hax, ham, hR, hq, hs, hl0, hB⟩ := hS
  have hXE : gX (fun q => s.heap.size ≤ q) s (EZ s.heap.size adK adV) := EZ_X (fun _ h => h) hEs
  have hEX := EZ_ok (adK := adK) (adV := adV) hH.2.2.2.2.2.1
  have hEM := EZ_ok (adK := adK) (adV := adV) hH.2.2.2.2.2.2.1
  obtain ⟨r, x1, mm1, ex, em, hR1⟩ := op_book hR (xs (i + 1))
  refine lv_aload_n hC.x hC.b dL_law_966 rfl (lv_at hl 2 rfl) ?_
  refine L_arg (pc := 967) (k := 1) (n := 1) hC hXs hbl hH.2.2.2.2.2.2.2 hl rfl dL_law_967 dL_law_968 dL_law_969 dL_law_970 dL_law_971 (by omega) hlen ?_
  refine L_X (R := room_1) (cells := cells) (slots := slots) (As := [.int (xs (i + 1))]) (rest := []) (q := (RX11, TX11, 13)) hC hXE EZ_bl hH hax (hl0 _ mX0) (c_X11_book (l := l) hH.2.2.1 hl0 hEX ex) kw1023 kw1024 kw1025 kw2 kw1026 aL_X11_book.1 aL_X11_book.2 rfl rfl hl.1 ⟨Nat.le_of_ble_eq_true rfl, Nat.le_of_ble_eq_true rfl, (by show cells ≤ 600000; omega), (by show slots ≤ 7302250; omega)⟩ (Nat.le_of_ble_eq_true rfl) dL_law_972 (fun H locs hH => ?_)
  refine lv_aload_n hC.x hC.b dL_law_975 rfl (lv_at hl 1 rfl) ?_
  refine L_arg (pc := 976) (k := 1) (n := 1) hC hXs hbl hH.2.2.2.2.2.2.2 hl rfl dL_law_976 dL_law_977 dL_law_978 dL_law_979 dL_law_980 (by omega) hlen ?_
  refine L_M (R := room_1) (cells := cells) (slots := slots) (As := [.int (xs (i + 1))]) (rest := [.int r]) (q := (RX12, TX12, 74)) hC hXE EZ_bl hH ham (c_X12_book (l := l) hH.2.2.2.1 lmf_M0 hEM em) kw1029 kw1030 kw1031 kw5 kw1032 aL_X12_book.1 aL_X12_book.2 rfl rfl hl.1 ⟨Nat.le_of_ble_eq_true rfl, Nat.le_of_ble_eq_true rfl, (by show cells ≤ 600000; omega), (by show slots ≤ 7302250; omega)⟩ (Nat.le_of_ble_eq_true rfl) dL_law_981 (fun H locs hH => ?_)
  refine lv_icmp_eq (tgt := 1396) hC.x hC.b dL_law_984 (by decide) (fun _ => ?_) (fun z => absurd rfl z)
  refine W.widen (k := cells + 4) (n := slots + 40) (by omega) (by omega) ?_
  exact kk _ _ ⟨adX, LX, x1, W1, N, q, adM, mm1, hH, hax, ham, hR1, q_X11_book hl0 hq _ _ ex, hs, hl0, hB⟩
theorem law_27 {p : Program} {l : Launch} {e : Env} {s : State} {m : MethodId} {args : Array Value} {below : List Frame} {meth : Method} {c : Code} {H : Heap} {locs : List Loc} {cells slots : Nat} {Q : State → Prop} {ls : Array Slot} {D : va_G} {cy : Nat → ClassId} {adK adV : Nat → Nat} {ax am b len i : Nat} {xs : Nat → Int32} (hC : gC p s m args meth c cL_law 4 RL D cy) (hEs : EZ s.heap.size adK adV s) (hXs : va_X b len xs s s.heap) (hbl : b < s.heap.size) (hlen : len ≤ 3072) (hi : i + 6 ≤ len) (hcl : cells + 4 ≤ 600000) (hsl : slots + 40 ≤ 7302250) (hS : LSt D cy s ax am H locs) (hl : lv_has ls 4 [(3, .int (nI i)), (2, .ref am), (1, .ref ax), (0, .ref b)]) (kk : ∀ (H1 : Heap) (locs1 : List Loc), LSt D cy s ax am H1 locs1 → W p l e room_1 s m args below meth c H1 locs1 (cells + 4) (slots + 40) Q (F0 m 1396 ls [])) : W p l e room_1 s m args below meth c H locs cells slots Q (F0 m 989 ls []) := by
  obtain ⟨adX, LX, x, W1, N, q, adM, mm, hH, hax, ham, hR, hq, hs, hl0, hB⟩ := hS
  have hXE : gX (fun q => s.heap.size ≤ q) s (EZ s.heap.size adK adV) := EZ_X (fun _ h => h) hEs
  have hEX := EZ_ok (adK := adK) (adV := adV) hH.2.2.2.2.2.1
  have hEM := EZ_ok (adK := adK) (adV := adV) hH.2.2.2.2.2.2.1
  obtain ⟨r, x1, mm1, ex, em, hR1⟩ := op_looked hR 
  refine lv_aload_n hC.x hC.b dL_law_989 rfl (lv_at hl 2 rfl) ?_
  refine L_X (R := room_1) (cells := cells) (slots := slots) (As := []) (rest := []) (q := (RX11, TX11, 13)) hC hXE EZ_bl hH hax (hl0 _ mX0) (c_X11_looked (l := l) hH.2.2.1 hl0 hEX ex) kw1033 kw1034 kw1035 kw2 kw1036 aL_X11_looked.1 aL_X11_looked.2 rfl rfl hl.1 ⟨Nat.le_of_ble_eq_true rfl, Nat.le_of_ble_eq_true rfl, (by show cells ≤ 600000; omega), (by show slots ≤ 7302250; omega)⟩ (Nat.le_of_ble_eq_true rfl) dL_law_990 (fun H locs hH => ?_)
  refine lv_aload_n hC.x hC.b dL_law_993 rfl (lv_at hl 1 rfl) ?_
  refine L_M (R := room_1) (cells := cells) (slots := slots) (As := []) (rest := [.int r]) (q := (RX12, TX12, 74)) hC hXE EZ_bl hH ham (c_X12_looked (l := l) hH.2.2.2.1 lmf_M0 hEM em) kw1037 kw1038 kw1039 kw5 kw1040 aL_X12_looked.1 aL_X12_looked.2 rfl rfl hl.1 ⟨Nat.le_of_ble_eq_true rfl, Nat.le_of_ble_eq_true rfl, (by show cells ≤ 600000; omega), (by show slots ≤ 7302250; omega)⟩ (Nat.le_of_ble_eq_true rfl) dL_law_994 (fun H locs hH => ?_)
  refine lv_icmp_eq (tgt := 1396) hC.x hC.b dL_law_997 (by decide) (fun _ => ?_) (fun z => absurd rfl z)
  refine W.widen (k := cells + 4) (n := slots + 40) (by omega) (by omega) ?_
  exact kk _ _ ⟨adX, LX, x1, W1, N, q, adM, mm1, hH, hax, ham, hR1, q_X11_looked hl0 hq _ _ ex, hs, hl0, hB⟩
theorem law_28 {p : Program} {l : Launch} {e : Env} {s : State} {m : MethodId} {args : Array Value} {below : List Frame} {meth : Method} {c : Code} {H : Heap} {locs : List Loc} {cells slots : Nat} {Q : State → Prop} {ls : Array Slot} {D : va_G} {cy : Nat → ClassId} {adK adV : Nat → Nat} {ax am b len i : Nat} {xs : Nat → Int32} (hC : gC p s m args meth c cL_law 4 RL D cy) (hEs : EZ s.heap.size adK adV s) (hXs : va_X b len xs s s.heap) (hbl : b < s.heap.size) (hlen : len ≤ 3072) (hi : i + 6 ≤ len) (hcl : cells + 4 ≤ 600000) (hsl : slots + 40 ≤ 7302250) (hS : LSt D cy s ax am H locs) (hl : lv_has ls 4 [(3, .int (nI i)), (2, .ref am), (1, .ref ax), (0, .ref b)]) (kk : ∀ (H1 : Heap) (locs1 : List Loc), LSt D cy s ax am H1 locs1 → W p l e room_1 s m args below meth c H1 locs1 (cells + 4) (slots + 40) Q (F0 m 1396 ls [])) : W p l e room_1 s m args below meth c H locs cells slots Q (F0 m 1002 ls []) := by
  obtain ⟨adX, LX, x, W1, N, q, adM, mm, hH, hax, ham, hR, hq, hs, hl0, hB⟩ := hS
  have hXE : gX (fun q => s.heap.size ≤ q) s (EZ s.heap.size adK adV) := EZ_X (fun _ h => h) hEs
  have hEX := EZ_ok (adK := adK) (adV := adV) hH.2.2.2.2.2.1
  have hEM := EZ_ok (adK := adK) (adV := adV) hH.2.2.2.2.2.2.1
  obtain ⟨r, ex, em⟩ := op_judge hR (xs (i + 1)) (xs (i + 2))
  refine lv_aload_n hC.x hC.b dL_law_1002 rfl (lv_at hl 2 rfl) ?_
  refine L_arg (pc := 1003) (k := 1) (n := 1) hC hXs hbl hH.2.2.2.2.2.2.2 hl rfl dL_law_1003 dL_law_1004 dL_law_1005 dL_law_1006 dL_law_1007 (by omega) hlen ?_
  refine L_arg (pc := 1008) (k := 2) (n := 2) hC hXs hbl hH.2.2.2.2.2.2.2 hl rfl dL_law_1008 dL_law_1009 dL_law_1010 dL_law_1011 dL_law_1012 (by omega) hlen ?_
  refine L_X (R := room_1) (cells := cells) (slots := slots) (As := [.int (xs (i + 1)), .int (xs (i + 2))]) (rest := []) (q := (RX11, TX11, 13)) hC hXE EZ_bl hH hax (hl0 _ mX0) (c_X11_judge (l := l) hH.2.2.1 hl0 hEX ex) kw1041 kw1042 kw1043 kw2 kw1044 aL_X11_judge.1 aL_X11_judge.2 rfl rfl hl.1 ⟨Nat.le_of_ble_eq_true rfl, Nat.le_of_ble_eq_true rfl, (by show cells ≤ 600000; omega), (by show slots ≤ 7302250; omega)⟩ (Nat.le_of_ble_eq_true rfl) dL_law_1013 (fun H locs hH => ?_)
  refine lv_aload_n hC.x hC.b dL_law_1016 rfl (lv_at hl 1 rfl) ?_
  refine L_arg (pc := 1017) (k := 1) (n := 1) hC hXs hbl hH.2.2.2.2.2.2.2 hl rfl dL_law_1017 dL_law_1018 dL_law_1019 dL_law_1020 dL_law_1021 (by omega) hlen ?_
  refine L_arg (pc := 1022) (k := 2) (n := 2) hC hXs hbl hH.2.2.2.2.2.2.2 hl rfl dL_law_1022 dL_law_1023 dL_law_1024 dL_law_1025 dL_law_1026 (by omega) hlen ?_
  refine L_M (R := room_1) (cells := cells) (slots := slots) (As := [.int (xs (i + 1)), .int (xs (i + 2))]) (rest := [.int r]) (q := (RX12, TX12, 74)) hC hXE EZ_bl hH ham (c_X12_judge (l := l) hH.2.2.2.1 lmf_M0 hEM em) kw1049 kw1050 kw1051 kw5 kw1052 aL_X12_judge.1 aL_X12_judge.2 rfl rfl hl.1 ⟨Nat.le_of_ble_eq_true rfl, Nat.le_of_ble_eq_true rfl, (by show cells ≤ 600000; omega), (by show slots ≤ 7302250; omega)⟩ (Nat.le_of_ble_eq_true rfl) dL_law_1027 (fun H locs hH => ?_)
  refine lv_icmp_eq (tgt := 1396) hC.x hC.b dL_law_1030 (by decide) (fun _ => ?_) (fun z => absurd rfl z)
  refine W.widen (k := cells + 4) (n := slots + 40) (by omega) (by omega) ?_
  exact kk _ _ ⟨adX, LX, x, W1, N, q, adM, mm, hH, hax, ham, hR, hq, hs, hl0, hB⟩
theorem law_29 {p : Program} {l : Launch} {e : Env} {s : State} {m : MethodId} {args : Array Value} {below : List Frame} {meth : Method} {c : Code} {H : Heap} {locs : List Loc} {cells slots : Nat} {Q : State → Prop} {ls : Array Slot} {D : va_G} {cy : Nat → ClassId} {adK adV : Nat → Nat} {ax am b len i : Nat} {xs : Nat → Int32} (hC : gC p s m args meth c cL_law 4 RL D cy) (hEs : EZ s.heap.size adK adV s) (hXs : va_X b len xs s s.heap) (hbl : b < s.heap.size) (hlen : len ≤ 3072) (hi : i + 6 ≤ len) (hcl : cells + 4 ≤ 600000) (hsl : slots + 40 ≤ 7302250) (hS : LSt D cy s ax am H locs) (hl : lv_has ls 4 [(3, .int (nI i)), (2, .ref am), (1, .ref ax), (0, .ref b)]) (kk : ∀ (H1 : Heap) (locs1 : List Loc), LSt D cy s ax am H1 locs1 → W p l e room_1 s m args below meth c H1 locs1 (cells + 4) (slots + 40) Q (F0 m 1396 ls [])) : W p l e room_1 s m args below meth c H locs cells slots Q (F0 m 1035 ls []) := by
  obtain ⟨adX, LX, x, W1, N, q, adM, mm, hH, hax, ham, hR, hq, hs, hl0, hB⟩ := hS
  have hXE : gX (fun q => s.heap.size ≤ q) s (EZ s.heap.size adK adV) := EZ_X (fun _ h => h) hEs
  have hEX := EZ_ok (adK := adK) (adV := adV) hH.2.2.2.2.2.1
  have hEM := EZ_ok (adK := adK) (adV := adV) hH.2.2.2.2.2.2.1
  obtain ⟨r, x1, mm1, ex, em, hR1⟩ := op_image hR 
  refine lv_aload_n hC.x hC.b dL_law_1035 rfl (lv_at hl 2 rfl) ?_
  refine L_X (R := room_1) (cells := cells) (slots := slots) (As := []) (rest := []) (q := (RX11, TX11, 13)) hC hXE EZ_bl hH hax (hl0 _ mX0) (c_X11_image (l := l) hH.2.2.1 hl0 hEX ex) kw1057 kw1058 kw1059 kw2 kw1060 aL_X11_image.1 aL_X11_image.2 rfl rfl hl.1 ⟨Nat.le_of_ble_eq_true rfl, Nat.le_of_ble_eq_true rfl, (by show cells ≤ 600000; omega), (by show slots ≤ 7302250; omega)⟩ (Nat.le_of_ble_eq_true rfl) dL_law_1036 (fun H locs hH => ?_)
  refine lv_aload_n hC.x hC.b dL_law_1039 rfl (lv_at hl 1 rfl) ?_
  refine L_M (R := room_1) (cells := cells) (slots := slots) (As := []) (rest := [.int r]) (q := (RX12, TX12, 74)) hC hXE EZ_bl hH ham (c_X12_image (l := l) hH.2.2.2.1 lmf_M0 hEM em) kw1092 kw1093 kw1094 kw5 kw1095 aL_X12_image.1 aL_X12_image.2 rfl rfl hl.1 ⟨Nat.le_of_ble_eq_true rfl, Nat.le_of_ble_eq_true rfl, (by show cells ≤ 600000; omega), (by show slots ≤ 7302250; omega)⟩ (Nat.le_of_ble_eq_true rfl) dL_law_1040 (fun H locs hH => ?_)
  refine lv_icmp_eq (tgt := 1396) hC.x hC.b dL_law_1043 (by decide) (fun _ => ?_) (fun z => absurd rfl z)
  refine W.widen (k := cells + 4) (n := slots + 40) (by omega) (by omega) ?_
  exact kk _ _ ⟨adX, LX, x1, W1, N, q, adM, mm1, hH, hax, ham, hR1, q_X11_image hl0 hq _ _ ex, hs, hl0, hB⟩
theorem law_30 {p : Program} {l : Launch} {e : Env} {s : State} {m : MethodId} {args : Array Value} {below : List Frame} {meth : Method} {c : Code} {H : Heap} {locs : List Loc} {cells slots : Nat} {Q : State → Prop} {ls : Array Slot} {D : va_G} {cy : Nat → ClassId} {adK adV : Nat → Nat} {ax am b len i : Nat} {xs : Nat → Int32} (hC : gC p s m args meth c cL_law 4 RL D cy) (hEs : EZ s.heap.size adK adV s) (hXs : va_X b len xs s s.heap) (hbl : b < s.heap.size) (hlen : len ≤ 3072) (hi : i + 6 ≤ len) (hcl : cells + 4 ≤ 600000) (hsl : slots + 40 ≤ 7302250) (hS : LSt D cy s ax am H locs) (hl : lv_has ls 4 [(3, .int (nI i)), (2, .ref am), (1, .ref ax), (0, .ref b)]) (kk : ∀ (H1 : Heap) (locs1 : List Loc), LSt D cy s ax am H1 locs1 → W p l e room_1 s m args below meth c H1 locs1 (cells + 4) (slots + 40) Q (F0 m 1396 ls [])) : W p l e room_1 s m args below meth c H locs cells slots Q (F0 m 1048 ls []) := by
  obtain ⟨adX, LX, x, W1, N, q, adM, mm, hH, hax, ham, hR, hq, hs, hl0, hB⟩ := hS
  have hXE : gX (fun q => s.heap.size ≤ q) s (EZ s.heap.size adK adV) := EZ_X (fun _ h => h) hEs
  have hEX := EZ_ok (adK := adK) (adV := adV) hH.2.2.2.2.2.1
  have hEM := EZ_ok (adK := adK) (adV := adV) hH.2.2.2.2.2.2.1
  obtain ⟨r, x1, mm1, ex, em, hR1⟩ := op_undo hR 
  refine lv_aload_n hC.x hC.b dL_law_1048 rfl (lv_at hl 2 rfl) ?_
  refine L_X (R := room_1) (cells := cells) (slots := slots) (As := []) (rest := []) (q := (RX11, TX11, 13)) hC hXE EZ_bl hH hax (hl0 _ mX0) (c_X11_undo (l := l) hH.2.2.1 hl0 hEX ex) kw1096 kw1097 kw1098 kw2 kw1099 aL_X11_undo.1 aL_X11_undo.2 rfl rfl hl.1 ⟨Nat.le_of_ble_eq_true rfl, Nat.le_of_ble_eq_true rfl, (by show cells ≤ 600000; omega), (by show slots ≤ 7302250; omega)⟩ (Nat.le_of_ble_eq_true rfl) dL_law_1049 (fun H locs hH => ?_)
  refine lv_aload_n hC.x hC.b dL_law_1052 rfl (lv_at hl 1 rfl) ?_
  refine L_M (R := room_1) (cells := cells) (slots := slots) (As := []) (rest := [.int r]) (q := (RX12, TX12, 74)) hC hXE EZ_bl hH ham (c_X12_undo (l := l) hH.2.2.2.1 lmf_M0 hEM em) kw1115 kw1116 kw1117 kw5 kw1118 aL_X12_undo.1 aL_X12_undo.2 rfl rfl hl.1 ⟨Nat.le_of_ble_eq_true rfl, Nat.le_of_ble_eq_true rfl, (by show cells ≤ 600000; omega), (by show slots ≤ 7302250; omega)⟩ (Nat.le_of_ble_eq_true rfl) dL_law_1053 (fun H locs hH => ?_)
  refine lv_icmp_eq (tgt := 1396) hC.x hC.b dL_law_1056 (by decide) (fun _ => ?_) (fun z => absurd rfl z)
  refine W.widen (k := cells + 4) (n := slots + 40) (by omega) (by omega) ?_
  exact kk _ _ ⟨adX, LX, x1, W1, N, q, adM, mm1, hH, hax, ham, hR1, q_X11_undo hl0 hq _ _ ex, hs, hl0, hB⟩
theorem law_31 {p : Program} {l : Launch} {e : Env} {s : State} {m : MethodId} {args : Array Value} {below : List Frame} {meth : Method} {c : Code} {H : Heap} {locs : List Loc} {cells slots : Nat} {Q : State → Prop} {ls : Array Slot} {D : va_G} {cy : Nat → ClassId} {adK adV : Nat → Nat} {ax am b len i : Nat} {xs : Nat → Int32} (hC : gC p s m args meth c cL_law 4 RL D cy) (hEs : EZ s.heap.size adK adV s) (hXs : va_X b len xs s s.heap) (hbl : b < s.heap.size) (hlen : len ≤ 3072) (hi : i + 6 ≤ len) (hcl : cells + 4 ≤ 600000) (hsl : slots + 40 ≤ 7302250) (hS : LSt D cy s ax am H locs) (hl : lv_has ls 4 [(3, .int (nI i)), (2, .ref am), (1, .ref ax), (0, .ref b)]) (kk : ∀ (H1 : Heap) (locs1 : List Loc), LSt D cy s ax am H1 locs1 → W p l e room_1 s m args below meth c H1 locs1 (cells + 4) (slots + 40) Q (F0 m 1396 ls [])) : W p l e room_1 s m args below meth c H locs cells slots Q (F0 m 1061 ls []) := by
  obtain ⟨adX, LX, x, W1, N, q, adM, mm, hH, hax, ham, hR, hq, hs, hl0, hB⟩ := hS
  have hXE : gX (fun q => s.heap.size ≤ q) s (EZ s.heap.size adK adV) := EZ_X (fun _ h => h) hEs
  have hEX := EZ_ok (adK := adK) (adV := adV) hH.2.2.2.2.2.1
  have hEM := EZ_ok (adK := adK) (adV := adV) hH.2.2.2.2.2.2.1
  obtain ⟨r, x1, mm1, ex, em, hR1⟩ := op_act hR (xs (i + 1)) (xs (i + 2)) (xs (i + 3))
  refine lv_aload_n hC.x hC.b dL_law_1061 rfl (lv_at hl 2 rfl) ?_
  refine L_arg (pc := 1062) (k := 1) (n := 1) hC hXs hbl hH.2.2.2.2.2.2.2 hl rfl dL_law_1062 dL_law_1063 dL_law_1064 dL_law_1065 dL_law_1066 (by omega) hlen ?_
  refine L_arg (pc := 1067) (k := 2) (n := 2) hC hXs hbl hH.2.2.2.2.2.2.2 hl rfl dL_law_1067 dL_law_1068 dL_law_1069 dL_law_1070 dL_law_1071 (by omega) hlen ?_
  refine L_arg (pc := 1072) (k := 3) (n := 3) hC hXs hbl hH.2.2.2.2.2.2.2 hl rfl dL_law_1072 dL_law_1073 dL_law_1074 dL_law_1075 dL_law_1076 (by omega) hlen ?_
  refine L_X (R := room_1) (cells := cells) (slots := slots) (As := [.int (xs (i + 1)), .int (xs (i + 2)), .int (xs (i + 3))]) (rest := []) (q := (RX11, TX11, 13)) hC hXE EZ_bl hH hax (hl0 _ mX0) (c_X11_act (l := l) hH.2.2.1 hl0 hEX ex) kw1119 kw1120 kw1121 kw2 kw1122 aL_X11_act.1 aL_X11_act.2 rfl rfl hl.1 ⟨Nat.le_of_ble_eq_true rfl, Nat.le_of_ble_eq_true rfl, (by show cells ≤ 600000; omega), (by show slots ≤ 7302250; omega)⟩ (Nat.le_of_ble_eq_true rfl) dL_law_1077 (fun H locs hH => ?_)
  refine lv_aload_n hC.x hC.b dL_law_1080 rfl (lv_at hl 1 rfl) ?_
  refine L_arg (pc := 1081) (k := 1) (n := 1) hC hXs hbl hH.2.2.2.2.2.2.2 hl rfl dL_law_1081 dL_law_1082 dL_law_1083 dL_law_1084 dL_law_1085 (by omega) hlen ?_
  refine L_arg (pc := 1086) (k := 2) (n := 2) hC hXs hbl hH.2.2.2.2.2.2.2 hl rfl dL_law_1086 dL_law_1087 dL_law_1088 dL_law_1089 dL_law_1090 (by omega) hlen ?_
  refine L_arg (pc := 1091) (k := 3) (n := 3) hC hXs hbl hH.2.2.2.2.2.2.2 hl rfl dL_law_1091 dL_law_1092 dL_law_1093 dL_law_1094 dL_law_1095 (by omega) hlen ?_
  refine L_M (R := room_1) (cells := cells) (slots := slots) (As := [.int (xs (i + 1)), .int (xs (i + 2)), .int (xs (i + 3))]) (rest := [.int r]) (q := (RX12, TX12, 74)) hC hXE EZ_bl hH ham (c_X12_act (l := l) hH.2.2.2.1 lmf_M0 hEM em) kw1234 kw1235 kw1236 kw5 kw1237 aL_X12_act.1 aL_X12_act.2 rfl rfl hl.1 ⟨Nat.le_of_ble_eq_true rfl, Nat.le_of_ble_eq_true rfl, (by show cells ≤ 600000; omega), (by show slots ≤ 7302250; omega)⟩ (Nat.le_of_ble_eq_true rfl) dL_law_1096 (fun H locs hH => ?_)
  refine lv_icmp_eq (tgt := 1396) hC.x hC.b dL_law_1099 (by decide) (fun _ => ?_) (fun z => absurd rfl z)
  refine W.widen (k := cells + 4) (n := slots + 40) (by omega) (by omega) ?_
  exact kk _ _ ⟨adX, LX, x1, W1, N, q, adM, mm1, hH, hax, ham, hR1, q_X11_act hl0 hq _ _ ex, hs, hl0, hB⟩
theorem law_32 {p : Program} {l : Launch} {e : Env} {s : State} {m : MethodId} {args : Array Value} {below : List Frame} {meth : Method} {c : Code} {H : Heap} {locs : List Loc} {cells slots : Nat} {Q : State → Prop} {ls : Array Slot} {D : va_G} {cy : Nat → ClassId} {adK adV : Nat → Nat} {ax am b len i : Nat} {xs : Nat → Int32} (hC : gC p s m args meth c cL_law 4 RL D cy) (hEs : EZ s.heap.size adK adV s) (hXs : va_X b len xs s s.heap) (hbl : b < s.heap.size) (hlen : len ≤ 3072) (hi : i + 6 ≤ len) (hcl : cells + 4 ≤ 600000) (hsl : slots + 40 ≤ 7302250) (hS : LSt D cy s ax am H locs) (hl : lv_has ls 4 [(3, .int (nI i)), (2, .ref am), (1, .ref ax), (0, .ref b)]) (kk : ∀ (H1 : Heap) (locs1 : List Loc), LSt D cy s ax am H1 locs1 → W p l e room_1 s m args below meth c H1 locs1 (cells + 4) (slots + 40) Q (F0 m 1396 ls [])) : W p l e room_1 s m args below meth c H locs cells slots Q (F0 m 1104 ls []) := by
  obtain ⟨adX, LX, x, W1, N, q, adM, mm, hH, hax, ham, hR, hq, hs, hl0, hB⟩ := hS
  have hXE : gX (fun q => s.heap.size ≤ q) s (EZ s.heap.size adK adV) := EZ_X (fun _ h => h) hEs
  have hEX := EZ_ok (adK := adK) (adV := adV) hH.2.2.2.2.2.1
  have hEM := EZ_ok (adK := adK) (adV := adV) hH.2.2.2.2.2.2.1
  obtain ⟨r, ex, em⟩ := op_trace hR (xs (i + 1))
  refine lv_aload_n hC.x hC.b dL_law_1104 rfl (lv_at hl 2 rfl) ?_
  refine L_arg (pc := 1105) (k := 1) (n := 1) hC hXs hbl hH.2.2.2.2.2.2.2 hl rfl dL_law_1105 dL_law_1106 dL_law_1107 dL_law_1108 dL_law_1109 (by omega) hlen ?_
  refine L_X (R := room_1) (cells := cells) (slots := slots) (As := [.int (xs (i + 1))]) (rest := []) (q := (RX11, TX11, 13)) hC hXE EZ_bl hH hax (hl0 _ mX0) (c_X11_trace (l := l) hH.2.2.1 hl0 hEX ex) kw1270 kw1271 kw1272 kw2 kw1273 aL_X11_trace.1 aL_X11_trace.2 rfl rfl hl.1 ⟨Nat.le_of_ble_eq_true rfl, Nat.le_of_ble_eq_true rfl, (by show cells ≤ 600000; omega), (by show slots ≤ 7302250; omega)⟩ (Nat.le_of_ble_eq_true rfl) dL_law_1110 (fun H locs hH => ?_)
  refine lv_aload_n hC.x hC.b dL_law_1113 rfl (lv_at hl 1 rfl) ?_
  refine L_arg (pc := 1114) (k := 1) (n := 1) hC hXs hbl hH.2.2.2.2.2.2.2 hl rfl dL_law_1114 dL_law_1115 dL_law_1116 dL_law_1117 dL_law_1118 (by omega) hlen ?_
  refine L_M (R := room_1) (cells := cells) (slots := slots) (As := [.int (xs (i + 1))]) (rest := [.int r]) (q := (RX12, TX12, 74)) hC hXE EZ_bl hH ham (c_X12_trace (l := l) hH.2.2.2.1 lmf_M0 hEM em) kw1275 kw1276 kw1277 kw5 kw1278 aL_X12_trace.1 aL_X12_trace.2 rfl rfl hl.1 ⟨Nat.le_of_ble_eq_true rfl, Nat.le_of_ble_eq_true rfl, (by show cells ≤ 600000; omega), (by show slots ≤ 7302250; omega)⟩ (Nat.le_of_ble_eq_true rfl) dL_law_1119 (fun H locs hH => ?_)
  refine lv_icmp_eq (tgt := 1396) hC.x hC.b dL_law_1122 (by decide) (fun _ => ?_) (fun z => absurd rfl z)
  refine W.widen (k := cells + 4) (n := slots + 40) (by omega) (by omega) ?_
  exact kk _ _ ⟨adX, LX, x, W1, N, q, adM, mm, hH, hax, ham, hR, hq, hs, hl0, hB⟩
theorem law_33 {p : Program} {l : Launch} {e : Env} {s : State} {m : MethodId} {args : Array Value} {below : List Frame} {meth : Method} {c : Code} {H : Heap} {locs : List Loc} {cells slots : Nat} {Q : State → Prop} {ls : Array Slot} {D : va_G} {cy : Nat → ClassId} {adK adV : Nat → Nat} {ax am b len i : Nat} {xs : Nat → Int32} (hC : gC p s m args meth c cL_law 4 RL D cy) (hEs : EZ s.heap.size adK adV s) (hXs : va_X b len xs s s.heap) (hbl : b < s.heap.size) (hlen : len ≤ 3072) (hi : i + 6 ≤ len) (hcl : cells + 4 ≤ 600000) (hsl : slots + 40 ≤ 7302250) (hS : LSt D cy s ax am H locs) (hl : lv_has ls 4 [(3, .int (nI i)), (2, .ref am), (1, .ref ax), (0, .ref b)]) (kk : ∀ (H1 : Heap) (locs1 : List Loc), LSt D cy s ax am H1 locs1 → W p l e room_1 s m args below meth c H1 locs1 (cells + 4) (slots + 40) Q (F0 m 1396 ls [])) : W p l e room_1 s m args below meth c H locs cells slots Q (F0 m 1127 ls []) := by
  obtain ⟨adX, LX, x, W1, N, q, adM, mm, hH, hax, ham, hR, hq, hs, hl0, hB⟩ := hS
  have hXE : gX (fun q => s.heap.size ≤ q) s (EZ s.heap.size adK adV) := EZ_X (fun _ h => h) hEs
  have hEX := EZ_ok (adK := adK) (adV := adV) hH.2.2.2.2.2.1
  have hEM := EZ_ok (adK := adK) (adV := adV) hH.2.2.2.2.2.2.1
  obtain ⟨r, ex, em⟩ := op_taken hR (xs (i + 1)) (xs (i + 2))
  refine lv_aload_n hC.x hC.b dL_law_1127 rfl (lv_at hl 2 rfl) ?_
  refine L_arg (pc := 1128) (k := 1) (n := 1) hC hXs hbl hH.2.2.2.2.2.2.2 hl rfl dL_law_1128 dL_law_1129 dL_law_1130 dL_law_1131 dL_law_1132 (by omega) hlen ?_
  refine L_arg (pc := 1133) (k := 2) (n := 2) hC hXs hbl hH.2.2.2.2.2.2.2 hl rfl dL_law_1133 dL_law_1134 dL_law_1135 dL_law_1136 dL_law_1137 (by omega) hlen ?_
  refine L_X (R := room_1) (cells := cells) (slots := slots) (As := [.int (xs (i + 1)), .int (xs (i + 2))]) (rest := []) (q := (RX11, TX11, 13)) hC hXE EZ_bl hH hax (hl0 _ mX0) (c_X11_taken (l := l) hH.2.2.1 hl0 hEX ex) kw1279 kw1280 kw1281 kw2 kw1282 aL_X11_taken.1 aL_X11_taken.2 rfl rfl hl.1 ⟨Nat.le_of_ble_eq_true rfl, Nat.le_of_ble_eq_true rfl, (by show cells ≤ 600000; omega), (by show slots ≤ 7302250; omega)⟩ (Nat.le_of_ble_eq_true rfl) dL_law_1138 (fun H locs hH => ?_)
  refine lv_aload_n hC.x hC.b dL_law_1141 rfl (lv_at hl 1 rfl) ?_
  refine L_arg (pc := 1142) (k := 1) (n := 1) hC hXs hbl hH.2.2.2.2.2.2.2 hl rfl dL_law_1142 dL_law_1143 dL_law_1144 dL_law_1145 dL_law_1146 (by omega) hlen ?_
  refine L_arg (pc := 1147) (k := 2) (n := 2) hC hXs hbl hH.2.2.2.2.2.2.2 hl rfl dL_law_1147 dL_law_1148 dL_law_1149 dL_law_1150 dL_law_1151 (by omega) hlen ?_
  refine L_M (R := room_1) (cells := cells) (slots := slots) (As := [.int (xs (i + 1)), .int (xs (i + 2))]) (rest := [.int r]) (q := (RX12, TX12, 74)) hC hXE EZ_bl hH ham (c_X12_taken (l := l) hH.2.2.2.1 lmf_M0 hEM em) kw1291 kw1292 kw1293 kw5 kw1294 aL_X12_taken.1 aL_X12_taken.2 rfl rfl hl.1 ⟨Nat.le_of_ble_eq_true rfl, Nat.le_of_ble_eq_true rfl, (by show cells ≤ 600000; omega), (by show slots ≤ 7302250; omega)⟩ (Nat.le_of_ble_eq_true rfl) dL_law_1152 (fun H locs hH => ?_)
  refine lv_icmp_eq (tgt := 1396) hC.x hC.b dL_law_1155 (by decide) (fun _ => ?_) (fun z => absurd rfl z)
  refine W.widen (k := cells + 4) (n := slots + 40) (by omega) (by omega) ?_
  exact kk _ _ ⟨adX, LX, x, W1, N, q, adM, mm, hH, hax, ham, hR, hq, hs, hl0, hB⟩
theorem law_34 {p : Program} {l : Launch} {e : Env} {s : State} {m : MethodId} {args : Array Value} {below : List Frame} {meth : Method} {c : Code} {H : Heap} {locs : List Loc} {cells slots : Nat} {Q : State → Prop} {ls : Array Slot} {D : va_G} {cy : Nat → ClassId} {adK adV : Nat → Nat} {ax am b len i : Nat} {xs : Nat → Int32} (hC : gC p s m args meth c cL_law 4 RL D cy) (hEs : EZ s.heap.size adK adV s) (hXs : va_X b len xs s s.heap) (hbl : b < s.heap.size) (hlen : len ≤ 3072) (hi : i + 6 ≤ len) (hcl : cells + 4 ≤ 600000) (hsl : slots + 40 ≤ 7302250) (hS : LSt D cy s ax am H locs) (hl : lv_has ls 4 [(3, .int (nI i)), (2, .ref am), (1, .ref ax), (0, .ref b)]) (kk : ∀ (H1 : Heap) (locs1 : List Loc), LSt D cy s ax am H1 locs1 → W p l e room_1 s m args below meth c H1 locs1 (cells + 4) (slots + 40) Q (F0 m 1396 ls [])) : W p l e room_1 s m args below meth c H locs cells slots Q (F0 m 1160 ls []) := by
  obtain ⟨adX, LX, x, W1, N, q, adM, mm, hH, hax, ham, hR, hq, hs, hl0, hB⟩ := hS
  have hXE : gX (fun q => s.heap.size ≤ q) s (EZ s.heap.size adK adV) := EZ_X (fun _ h => h) hEs
  have hEX := EZ_ok (adK := adK) (adV := adV) hH.2.2.2.2.2.1
  have hEM := EZ_ok (adK := adK) (adV := adV) hH.2.2.2.2.2.2.1
  obtain ⟨r, ex, em⟩ := op_count hR (xs (i + 1))
  refine lv_aload_n hC.x hC.b dL_law_1160 rfl (lv_at hl 2 rfl) ?_
  refine L_arg (pc := 1161) (k := 1) (n := 1) hC hXs hbl hH.2.2.2.2.2.2.2 hl rfl dL_law_1161 dL_law_1162 dL_law_1163 dL_law_1164 dL_law_1165 (by omega) hlen ?_
  refine L_X (R := room_1) (cells := cells) (slots := slots) (As := [.int (xs (i + 1))]) (rest := []) (q := (RX11, TX11, 13)) hC hXE EZ_bl hH hax (hl0 _ mX0) (c_X11_count (l := l) hH.2.2.1 hl0 hEX ex) kw1295 kw1296 kw1297 kw2 kw1298 aL_X11_count.1 aL_X11_count.2 rfl rfl hl.1 ⟨Nat.le_of_ble_eq_true rfl, Nat.le_of_ble_eq_true rfl, (by show cells ≤ 600000; omega), (by show slots ≤ 7302250; omega)⟩ (Nat.le_of_ble_eq_true rfl) dL_law_1166 (fun H locs hH => ?_)
  refine lv_aload_n hC.x hC.b dL_law_1169 rfl (lv_at hl 1 rfl) ?_
  refine L_arg (pc := 1170) (k := 1) (n := 1) hC hXs hbl hH.2.2.2.2.2.2.2 hl rfl dL_law_1170 dL_law_1171 dL_law_1172 dL_law_1173 dL_law_1174 (by omega) hlen ?_
  refine L_M (R := room_1) (cells := cells) (slots := slots) (As := [.int (xs (i + 1))]) (rest := [.int r]) (q := (RX12, TX12, 74)) hC hXE EZ_bl hH ham (c_X12_count (l := l) hH.2.2.2.1 lmf_M0 hEM em) kw1299 kw1300 kw1301 kw5 kw1302 aL_X12_count.1 aL_X12_count.2 rfl rfl hl.1 ⟨Nat.le_of_ble_eq_true rfl, Nat.le_of_ble_eq_true rfl, (by show cells ≤ 600000; omega), (by show slots ≤ 7302250; omega)⟩ (Nat.le_of_ble_eq_true rfl) dL_law_1175 (fun H locs hH => ?_)
  refine lv_icmp_eq (tgt := 1396) hC.x hC.b dL_law_1178 (by decide) (fun _ => ?_) (fun z => absurd rfl z)
  refine W.widen (k := cells + 4) (n := slots + 40) (by omega) (by omega) ?_
  exact kk _ _ ⟨adX, LX, x, W1, N, q, adM, mm, hH, hax, ham, hR, hq, hs, hl0, hB⟩
theorem law_35 {p : Program} {l : Launch} {e : Env} {s : State} {m : MethodId} {args : Array Value} {below : List Frame} {meth : Method} {c : Code} {H : Heap} {locs : List Loc} {cells slots : Nat} {Q : State → Prop} {ls : Array Slot} {D : va_G} {cy : Nat → ClassId} {adK adV : Nat → Nat} {ax am b len i : Nat} {xs : Nat → Int32} (hC : gC p s m args meth c cL_law 4 RL D cy) (hEs : EZ s.heap.size adK adV s) (hXs : va_X b len xs s s.heap) (hbl : b < s.heap.size) (hlen : len ≤ 3072) (hi : i + 6 ≤ len) (hcl : cells + 4 ≤ 600000) (hsl : slots + 40 ≤ 7302250) (hS : LSt D cy s ax am H locs) (hl : lv_has ls 4 [(3, .int (nI i)), (2, .ref am), (1, .ref ax), (0, .ref b)]) (kk : ∀ (H1 : Heap) (locs1 : List Loc), LSt D cy s ax am H1 locs1 → W p l e room_1 s m args below meth c H1 locs1 (cells + 4) (slots + 40) Q (F0 m 1396 ls [])) : W p l e room_1 s m args below meth c H locs cells slots Q (F0 m 1183 ls []) := by
  obtain ⟨adX, LX, x, W1, N, q, adM, mm, hH, hax, ham, hR, hq, hs, hl0, hB⟩ := hS
  have hXE : gX (fun q => s.heap.size ≤ q) s (EZ s.heap.size adK adV) := EZ_X (fun _ h => h) hEs
  have hEX := EZ_ok (adK := adK) (adV := adV) hH.2.2.2.2.2.1
  have hEM := EZ_ok (adK := adK) (adV := adV) hH.2.2.2.2.2.2.1
  obtain ⟨r, x1, mm1, ex, em, hR1⟩ := op_tape hR (xs (i + 1)) (xs (i + 2)) (xs (i + 3))
  refine lv_aload_n hC.x hC.b dL_law_1183 rfl (lv_at hl 2 rfl) ?_
  refine L_arg (pc := 1184) (k := 1) (n := 1) hC hXs hbl hH.2.2.2.2.2.2.2 hl rfl dL_law_1184 dL_law_1185 dL_law_1186 dL_law_1187 dL_law_1188 (by omega) hlen ?_
  refine L_arg (pc := 1189) (k := 2) (n := 2) hC hXs hbl hH.2.2.2.2.2.2.2 hl rfl dL_law_1189 dL_law_1190 dL_law_1191 dL_law_1192 dL_law_1193 (by omega) hlen ?_
  refine L_arg (pc := 1194) (k := 3) (n := 3) hC hXs hbl hH.2.2.2.2.2.2.2 hl rfl dL_law_1194 dL_law_1195 dL_law_1196 dL_law_1197 dL_law_1198 (by omega) hlen ?_
  refine L_X (R := room_1) (cells := cells) (slots := slots) (As := [.int (xs (i + 1)), .int (xs (i + 2)), .int (xs (i + 3))]) (rest := []) (q := (RX11, TX11, 13)) hC hXE EZ_bl hH hax (hl0 _ mX0) (c_X11_tape (l := l) hH.2.2.1 hl0 hEX ex) kw1303 kw1304 kw1305 kw2 kw1306 aL_X11_tape.1 aL_X11_tape.2 rfl rfl hl.1 ⟨Nat.le_of_ble_eq_true rfl, Nat.le_of_ble_eq_true rfl, (by show cells ≤ 600000; omega), (by show slots ≤ 7302250; omega)⟩ (Nat.le_of_ble_eq_true rfl) dL_law_1199 (fun H locs hH => ?_)
  refine lv_aload_n hC.x hC.b dL_law_1202 rfl (lv_at hl 1 rfl) ?_
  refine L_arg (pc := 1203) (k := 1) (n := 1) hC hXs hbl hH.2.2.2.2.2.2.2 hl rfl dL_law_1203 dL_law_1204 dL_law_1205 dL_law_1206 dL_law_1207 (by omega) hlen ?_
  refine L_arg (pc := 1208) (k := 2) (n := 2) hC hXs hbl hH.2.2.2.2.2.2.2 hl rfl dL_law_1208 dL_law_1209 dL_law_1210 dL_law_1211 dL_law_1212 (by omega) hlen ?_
  refine L_arg (pc := 1213) (k := 3) (n := 3) hC hXs hbl hH.2.2.2.2.2.2.2 hl rfl dL_law_1213 dL_law_1214 dL_law_1215 dL_law_1216 dL_law_1217 (by omega) hlen ?_
  refine L_M (R := room_1) (cells := cells) (slots := slots) (As := [.int (xs (i + 1)), .int (xs (i + 2)), .int (xs (i + 3))]) (rest := [.int r]) (q := (RX12, TX12, 74)) hC hXE EZ_bl hH ham (c_X12_tape (l := l) hH.2.2.2.1 lmf_M0 hEM em) kw1307 kw1308 kw1309 kw5 kw1310 aL_X12_tape.1 aL_X12_tape.2 rfl rfl hl.1 ⟨Nat.le_of_ble_eq_true rfl, Nat.le_of_ble_eq_true rfl, (by show cells ≤ 600000; omega), (by show slots ≤ 7302250; omega)⟩ (Nat.le_of_ble_eq_true rfl) dL_law_1218 (fun H locs hH => ?_)
  refine lv_icmp_eq (tgt := 1396) hC.x hC.b dL_law_1221 (by decide) (fun _ => ?_) (fun z => absurd rfl z)
  refine W.widen (k := cells + 4) (n := slots + 40) (by omega) (by omega) ?_
  exact kk _ _ ⟨adX, LX, x1, W1, N, q, adM, mm1, hH, hax, ham, hR1, q_X11_tape hl0 hq _ _ ex, hs, hl0, hB⟩
theorem law_36 {p : Program} {l : Launch} {e : Env} {s : State} {m : MethodId} {args : Array Value} {below : List Frame} {meth : Method} {c : Code} {H : Heap} {locs : List Loc} {cells slots : Nat} {Q : State → Prop} {ls : Array Slot} {D : va_G} {cy : Nat → ClassId} {adK adV : Nat → Nat} {ax am b len i : Nat} {xs : Nat → Int32} (hC : gC p s m args meth c cL_law 4 RL D cy) (hEs : EZ s.heap.size adK adV s) (hXs : va_X b len xs s s.heap) (hbl : b < s.heap.size) (hlen : len ≤ 3072) (hi : i + 6 ≤ len) (hcl : cells + 4 ≤ 600000) (hsl : slots + 40 ≤ 7302250) (hS : LSt D cy s ax am H locs) (hl : lv_has ls 4 [(3, .int (nI i)), (2, .ref am), (1, .ref ax), (0, .ref b)]) (kk : ∀ (H1 : Heap) (locs1 : List Loc), LSt D cy s ax am H1 locs1 → W p l e room_1 s m args below meth c H1 locs1 (cells + 4) (slots + 40) Q (F0 m 1396 ls [])) : W p l e room_1 s m args below meth c H locs cells slots Q (F0 m 1226 ls []) := by
  obtain ⟨adX, LX, x, W1, N, q, adM, mm, hH, hax, ham, hR, hq, hs, hl0, hB⟩ := hS
  have hXE : gX (fun q => s.heap.size ≤ q) s (EZ s.heap.size adK adV) := EZ_X (fun _ h => h) hEs
  have hEX := EZ_ok (adK := adK) (adV := adV) hH.2.2.2.2.2.1
  have hEM := EZ_ok (adK := adK) (adV := adV) hH.2.2.2.2.2.2.1
  refine lv_aload_n hC.x hC.b dL_law_1226 rfl (lv_at hl 2 rfl) ?_
  refine L_arg (pc := 1227) (k := 1) (n := 1) hC hXs hbl hH.2.2.2.2.2.2.2 hl rfl dL_law_1227 dL_law_1228 dL_law_1229 dL_law_1230 dL_law_1231 (by omega) hlen ?_
  refine L_arg (pc := 1232) (k := 2) (n := 2) hC hXs hbl hH.2.2.2.2.2.2.2 hl rfl dL_law_1232 dL_law_1233 dL_law_1234 dL_law_1235 dL_law_1236 (by omega) hlen ?_
  refine L_arg (pc := 1237) (k := 3) (n := 3) hC hXs hbl hH.2.2.2.2.2.2.2 hl rfl dL_law_1237 dL_law_1238 dL_law_1239 dL_law_1240 dL_law_1241 (by omega) hlen ?_
  refine lv_i2l hC.x hC.b dL_law_1242 rfl ?_
  refine lv_bipush (v := (32 : Int32)) hC.x hC.b dL_law_1243 rfl ?_
  refine lv_lshl hC.x hC.b dL_law_1245 rfl ?_
  refine L_arg (pc := 1246) (k := 4) (n := 4) hC hXs hbl hH.2.2.2.2.2.2.2 hl rfl dL_law_1246 dL_law_1247 dL_law_1248 dL_law_1249 dL_law_1250 (by omega) hlen ?_
  refine lv_i2l hC.x hC.b dL_law_1251 rfl ?_
  refine lv_ldc2 (v := 4294967295) hC.x hC.b hC.ow (hC.ts _ kw6) dL_law_1252 ?_
  refine lv_land hC.x hC.b dL_law_1255 ?_
  refine lv_lor hC.x hC.b dL_law_1256 ?_
  refine lv_topl (fun z1 hz1 => ?_)
  obtain ⟨r, x1, mm1, ex, em, hR1⟩ := op_item hR (xs (i + 1)) (xs (i + 2)) z1
  refine L_X (R := room_1) (cells := cells) (slots := slots) (As := [.int (xs (i + 1)), .int (xs (i + 2)), .long z1]) (rest := []) (q := (RX11, TX11, 13)) hC hXE EZ_bl hH hax (hl0 _ mX0) (c_X11_item (l := l) hH.2.2.1 hl0 hEX ex) kw1311 kw1312 kw1313 kw2 kw1314 aL_X11_item.1 aL_X11_item.2 rfl rfl hl.1 ⟨Nat.le_of_ble_eq_true rfl, Nat.le_of_ble_eq_true rfl, (by show cells ≤ 600000; omega), (by show slots ≤ 7302250; omega)⟩ (Nat.le_of_ble_eq_true rfl) dL_law_1257 (fun H locs hH => ?_)
  refine lv_aload_n hC.x hC.b dL_law_1260 rfl (lv_at hl 1 rfl) ?_
  refine L_arg (pc := 1261) (k := 1) (n := 1) hC hXs hbl hH.2.2.2.2.2.2.2 hl rfl dL_law_1261 dL_law_1262 dL_law_1263 dL_law_1264 dL_law_1265 (by omega) hlen ?_
  refine L_arg (pc := 1266) (k := 2) (n := 2) hC hXs hbl hH.2.2.2.2.2.2.2 hl rfl dL_law_1266 dL_law_1267 dL_law_1268 dL_law_1269 dL_law_1270 (by omega) hlen ?_
  refine L_arg (pc := 1271) (k := 3) (n := 3) hC hXs hbl hH.2.2.2.2.2.2.2 hl rfl dL_law_1271 dL_law_1272 dL_law_1273 dL_law_1274 dL_law_1275 (by omega) hlen ?_
  refine lv_i2l hC.x hC.b dL_law_1276 rfl ?_
  refine lv_bipush (v := (32 : Int32)) hC.x hC.b dL_law_1277 rfl ?_
  refine lv_lshl hC.x hC.b dL_law_1279 rfl ?_
  refine L_arg (pc := 1280) (k := 4) (n := 4) hC hXs hbl hH.2.2.2.2.2.2.2 hl rfl dL_law_1280 dL_law_1281 dL_law_1282 dL_law_1283 dL_law_1284 (by omega) hlen ?_
  refine lv_i2l hC.x hC.b dL_law_1285 rfl ?_
  refine lv_ldc2 (v := 4294967295) hC.x hC.b hC.ow (hC.ts _ kw6) dL_law_1286 ?_
  refine lv_land hC.x hC.b dL_law_1289 ?_
  refine lv_lor hC.x hC.b dL_law_1290 ?_
  refine lv_topl (fun z2 hz2 => ?_)
  obtain rfl : z2 = z1 := hz2.trans hz1.symm
  refine L_M (R := room_1) (cells := cells) (slots := slots) (As := [.int (xs (i + 1)), .int (xs (i + 2)), .long z2]) (rest := [.int r]) (q := (RX12, TX12, 74)) hC hXE EZ_bl hH ham (c_X12_item (l := l) hH.2.2.2.1 lmf_M0 hEM em) kw1322 kw1323 kw1324 kw5 kw1325 aL_X12_item.1 aL_X12_item.2 rfl rfl hl.1 ⟨Nat.le_of_ble_eq_true rfl, Nat.le_of_ble_eq_true rfl, (by show cells ≤ 600000; omega), (by show slots ≤ 7302250; omega)⟩ (Nat.le_of_ble_eq_true rfl) dL_law_1291 (fun H locs hH => ?_)
  refine lv_icmp_eq (tgt := 1396) hC.x hC.b dL_law_1294 (by decide) (fun _ => ?_) (fun z => absurd rfl z)
  refine W.widen (k := cells + 4) (n := slots + 40) (by omega) (by omega) ?_
  exact kk _ _ ⟨adX, LX, x1, W1, N, q, adM, mm1, hH, hax, ham, hR1, q_X11_item hl0 hq _ _ ex, hs, hl0, hB⟩
theorem law_37 {p : Program} {l : Launch} {e : Env} {s : State} {m : MethodId} {args : Array Value} {below : List Frame} {meth : Method} {c : Code} {H : Heap} {locs : List Loc} {cells slots : Nat} {Q : State → Prop} {ls : Array Slot} {D : va_G} {cy : Nat → ClassId} {adK adV : Nat → Nat} {ax am b len i : Nat} {xs : Nat → Int32} (hC : gC p s m args meth c cL_law 4 RL D cy) (hEs : EZ s.heap.size adK adV s) (hXs : va_X b len xs s s.heap) (hbl : b < s.heap.size) (hlen : len ≤ 3072) (hi : i + 6 ≤ len) (hcl : cells + 4 ≤ 600000) (hsl : slots + 40 ≤ 7302250) (hS : LSt D cy s ax am H locs) (hl : lv_has ls 4 [(3, .int (nI i)), (2, .ref am), (1, .ref ax), (0, .ref b)]) (kk : ∀ (H1 : Heap) (locs1 : List Loc), LSt D cy s ax am H1 locs1 → W p l e room_1 s m args below meth c H1 locs1 (cells + 4) (slots + 40) Q (F0 m 1396 ls [])) : W p l e room_1 s m args below meth c H locs cells slots Q (F0 m 1299 ls []) := by
  obtain ⟨adX, LX, x, W1, N, q, adM, mm, hH, hax, ham, hR, hq, hs, hl0, hB⟩ := hS
  have hXE : gX (fun q => s.heap.size ≤ q) s (EZ s.heap.size adK adV) := EZ_X (fun _ h => h) hEs
  have hEX := EZ_ok (adK := adK) (adV := adV) hH.2.2.2.2.2.1
  have hEM := EZ_ok (adK := adK) (adV := adV) hH.2.2.2.2.2.2.1
  obtain ⟨r, ex, em⟩ := op_read hR (xs (i + 1)) (xs (i + 2))
  refine lv_aload_n hC.x hC.b dL_law_1299 rfl (lv_at hl 2 rfl) ?_
  refine L_arg (pc := 1300) (k := 1) (n := 1) hC hXs hbl hH.2.2.2.2.2.2.2 hl rfl dL_law_1300 dL_law_1301 dL_law_1302 dL_law_1303 dL_law_1304 (by omega) hlen ?_
  refine L_arg (pc := 1305) (k := 2) (n := 2) hC hXs hbl hH.2.2.2.2.2.2.2 hl rfl dL_law_1305 dL_law_1306 dL_law_1307 dL_law_1308 dL_law_1309 (by omega) hlen ?_
  refine L_X (R := room_1) (cells := cells) (slots := slots) (As := [.int (xs (i + 1)), .int (xs (i + 2))]) (rest := []) (q := (RX11, TX11, 13)) hC hXE EZ_bl hH hax (hl0 _ mX0) (c_X11_read (l := l) hH.2.2.1 hl0 hEX ex) kw1330 kw1331 kw1332 kw2 kw1333 aL_X11_read.1 aL_X11_read.2 rfl rfl hl.1 ⟨Nat.le_of_ble_eq_true rfl, Nat.le_of_ble_eq_true rfl, (by show cells ≤ 600000; omega), (by show slots ≤ 7302250; omega)⟩ (Nat.le_of_ble_eq_true rfl) dL_law_1310 (fun H locs hH => ?_)
  refine lv_aload_n hC.x hC.b dL_law_1313 rfl (lv_at hl 1 rfl) ?_
  refine L_arg (pc := 1314) (k := 1) (n := 1) hC hXs hbl hH.2.2.2.2.2.2.2 hl rfl dL_law_1314 dL_law_1315 dL_law_1316 dL_law_1317 dL_law_1318 (by omega) hlen ?_
  refine L_arg (pc := 1319) (k := 2) (n := 2) hC hXs hbl hH.2.2.2.2.2.2.2 hl rfl dL_law_1319 dL_law_1320 dL_law_1321 dL_law_1322 dL_law_1323 (by omega) hlen ?_
  refine L_M (R := room_1) (cells := cells) (slots := slots) (As := [.int (xs (i + 1)), .int (xs (i + 2))]) (rest := [.long r]) (q := (RX12, TX12, 74)) hC hXE EZ_bl hH ham (c_X12_read (l := l) hH.2.2.2.1 lmf_M0 hEM em) kw1334 kw1335 kw1336 kw5 kw1337 aL_X12_read.1 aL_X12_read.2 rfl rfl hl.1 ⟨Nat.le_of_ble_eq_true rfl, Nat.le_of_ble_eq_true rfl, (by show cells ≤ 600000; omega), (by show slots ≤ 7302250; omega)⟩ (Nat.le_of_ble_eq_true rfl) dL_law_1324 (fun H locs hH => ?_)
  refine W.lcmp hC.x hC.b dL_law_1327 ?_
  rw [lg_self]
  refine lv_if_eq (tgt := 1396) hC.x hC.b dL_law_1328 (by decide) (fun _ => ?_) (fun z => absurd rfl z)
  refine W.widen (k := cells + 4) (n := slots + 40) (by omega) (by omega) ?_
  exact kk _ _ ⟨adX, LX, x, W1, N, q, adM, mm, hH, hax, ham, hR, hq, hs, hl0, hB⟩
theorem law_38 {p : Program} {l : Launch} {e : Env} {s : State} {m : MethodId} {args : Array Value} {below : List Frame} {meth : Method} {c : Code} {H : Heap} {locs : List Loc} {cells slots : Nat} {Q : State → Prop} {ls : Array Slot} {D : va_G} {cy : Nat → ClassId} {adK adV : Nat → Nat} {ax am b len i : Nat} {xs : Nat → Int32} (hC : gC p s m args meth c cL_law 4 RL D cy) (hEs : EZ s.heap.size adK adV s) (hXs : va_X b len xs s s.heap) (hbl : b < s.heap.size) (hlen : len ≤ 3072) (hi : i + 6 ≤ len) (hcl : cells + 4 ≤ 600000) (hsl : slots + 40 ≤ 7302250) (hS : LSt D cy s ax am H locs) (hl : lv_has ls 4 [(3, .int (nI i)), (2, .ref am), (1, .ref ax), (0, .ref b)]) (kk : ∀ (H1 : Heap) (locs1 : List Loc), LSt D cy s ax am H1 locs1 → W p l e room_1 s m args below meth c H1 locs1 (cells + 4) (slots + 40) Q (F0 m 1396 ls [])) : W p l e room_1 s m args below meth c H locs cells slots Q (F0 m 1333 ls []) := by
  obtain ⟨adX, LX, x, W1, N, q, adM, mm, hH, hax, ham, hR, hq, hs, hl0, hB⟩ := hS
  have hXE : gX (fun q => s.heap.size ≤ q) s (EZ s.heap.size adK adV) := EZ_X (fun _ h => h) hEs
  have hEX := EZ_ok (adK := adK) (adV := adV) hH.2.2.2.2.2.1
  have hEM := EZ_ok (adK := adK) (adV := adV) hH.2.2.2.2.2.2.1
  obtain ⟨r, x1, mm1, ex, em, hR1⟩ := op_shift hR (xs (i + 1)) (xs (i + 2)) (xs (i + 3)) (xs (i + 4)) (xs (i + 5))
  refine lv_aload_n hC.x hC.b dL_law_1333 rfl (lv_at hl 2 rfl) ?_
  refine L_arg (pc := 1334) (k := 1) (n := 1) hC hXs hbl hH.2.2.2.2.2.2.2 hl rfl dL_law_1334 dL_law_1335 dL_law_1336 dL_law_1337 dL_law_1338 (by omega) hlen ?_
  refine L_arg (pc := 1339) (k := 2) (n := 2) hC hXs hbl hH.2.2.2.2.2.2.2 hl rfl dL_law_1339 dL_law_1340 dL_law_1341 dL_law_1342 dL_law_1343 (by omega) hlen ?_
  refine L_arg (pc := 1344) (k := 3) (n := 3) hC hXs hbl hH.2.2.2.2.2.2.2 hl rfl dL_law_1344 dL_law_1345 dL_law_1346 dL_law_1347 dL_law_1348 (by omega) hlen ?_
  refine L_arg (pc := 1349) (k := 4) (n := 4) hC hXs hbl hH.2.2.2.2.2.2.2 hl rfl dL_law_1349 dL_law_1350 dL_law_1351 dL_law_1352 dL_law_1353 (by omega) hlen ?_
  refine L_arg (pc := 1354) (k := 5) (n := 5) hC hXs hbl hH.2.2.2.2.2.2.2 hl rfl dL_law_1354 dL_law_1355 dL_law_1356 dL_law_1357 dL_law_1358 (by omega) hlen ?_
  refine L_X (R := room_1) (cells := cells) (slots := slots) (As := [.int (xs (i + 1)), .int (xs (i + 2)), .int (xs (i + 3)), .int (xs (i + 4)), .int (xs (i + 5))]) (rest := []) (q := (RX11, TX11, 13)) hC hXE EZ_bl hH hax (hl0 _ mX0) (c_X11_shift (l := l) hH.2.2.1 hl0 hEX ex) kw1338 kw1339 kw1340 kw2 kw1341 aL_X11_shift.1 aL_X11_shift.2 rfl rfl hl.1 ⟨Nat.le_of_ble_eq_true rfl, Nat.le_of_ble_eq_true rfl, (by show cells ≤ 600000; omega), (by show slots ≤ 7302250; omega)⟩ (Nat.le_of_ble_eq_true rfl) dL_law_1359 (fun H locs hH => ?_)
  refine lv_aload_n hC.x hC.b dL_law_1362 rfl (lv_at hl 1 rfl) ?_
  refine L_arg (pc := 1363) (k := 1) (n := 1) hC hXs hbl hH.2.2.2.2.2.2.2 hl rfl dL_law_1363 dL_law_1364 dL_law_1365 dL_law_1366 dL_law_1367 (by omega) hlen ?_
  refine L_arg (pc := 1368) (k := 2) (n := 2) hC hXs hbl hH.2.2.2.2.2.2.2 hl rfl dL_law_1368 dL_law_1369 dL_law_1370 dL_law_1371 dL_law_1372 (by omega) hlen ?_
  refine L_arg (pc := 1373) (k := 3) (n := 3) hC hXs hbl hH.2.2.2.2.2.2.2 hl rfl dL_law_1373 dL_law_1374 dL_law_1375 dL_law_1376 dL_law_1377 (by omega) hlen ?_
  refine L_arg (pc := 1378) (k := 4) (n := 4) hC hXs hbl hH.2.2.2.2.2.2.2 hl rfl dL_law_1378 dL_law_1379 dL_law_1380 dL_law_1381 dL_law_1382 (by omega) hlen ?_
  refine L_arg (pc := 1383) (k := 5) (n := 5) hC hXs hbl hH.2.2.2.2.2.2.2 hl rfl dL_law_1383 dL_law_1384 dL_law_1385 dL_law_1386 dL_law_1387 (by omega) hlen ?_
  refine L_M (R := room_1) (cells := cells) (slots := slots) (As := [.int (xs (i + 1)), .int (xs (i + 2)), .int (xs (i + 3)), .int (xs (i + 4)), .int (xs (i + 5))]) (rest := [.int r]) (q := (RX12, TX12, 74)) hC hXE EZ_bl hH ham (c_X12_shift (l := l) hH.2.2.2.1 lmf_M0 hEM em) kw1346 kw1347 kw1348 kw5 kw1349 aL_X12_shift.1 aL_X12_shift.2 rfl rfl hl.1 ⟨Nat.le_of_ble_eq_true rfl, Nat.le_of_ble_eq_true rfl, (by show cells ≤ 600000; omega), (by show slots ≤ 7302250; omega)⟩ (Nat.le_of_ble_eq_true rfl) dL_law_1388 (fun H locs hH => ?_)
  refine lv_icmp_eq (tgt := 1396) hC.x hC.b dL_law_1391 (by decide) (fun _ => ?_) (fun z => absurd rfl z)
  refine W.widen (k := cells + 4) (n := slots + 40) (by omega) (by omega) ?_
  exact kk _ _ ⟨adX, LX, x1, W1, N, q, adM, mm1, hH, hax, ham, hR1, q_X11_shift hl0 hq _ _ ex, hs, hl0, hB⟩

/-! what holds at the law's entry -/
theorem st_no {s : State} {b : Nat} (hs : ∀ c ∈ flatC (Jvm.Cond.and given_1 narrow_1), c.before #[Value.ref b] s = true) : ∀ q ∈ gNo, va_Nc q.1 q.2 s :=
  List.forall_mem_cons.mpr ⟨va_Nc.of (hs _ (List.mem_of_getElem? (i := 31) rfl)), List.forall_mem_cons.mpr ⟨va_Nc.of (hs _ (List.mem_of_getElem? (i := 42) rfl)), List.forall_mem_cons.mpr ⟨va_Nc.of (hs _ (List.mem_of_getElem? (i := 53) rfl)), List.forall_mem_cons.mpr ⟨va_Nc.of (hs _ (List.mem_of_getElem? (i := 65) rfl)), List.forall_mem_cons.mpr ⟨va_Nc.of (hs _ (List.mem_of_getElem? (i := 77) rfl)), List.forall_mem_cons.mpr ⟨va_Nc.of (hs _ (List.mem_of_getElem? (i := 20) rfl)), List.forall_mem_cons.mpr ⟨va_Nc.of (hs _ (List.mem_of_getElem? (i := 38) rfl)), List.forall_mem_cons.mpr ⟨va_Nc.of (hs _ (List.mem_of_getElem? (i := 49) rfl)), List.forall_mem_cons.mpr ⟨va_Nc.of (hs _ (List.mem_of_getElem? (i := 60) rfl)), List.forall_mem_cons.mpr ⟨va_Nc.of (hs _ (List.mem_of_getElem? (i := 72) rfl)), List.forall_mem_cons.mpr ⟨va_Nc.of (hs _ (List.mem_of_getElem? (i := 15) rfl)), List.forall_mem_cons.mpr ⟨va_Nc.of (hs _ (List.mem_of_getElem? (i := 27) rfl)), List.forall_mem_cons.mpr ⟨va_Nc.of (hs _ (List.mem_of_getElem? (i := 50) rfl)), List.forall_mem_cons.mpr ⟨va_Nc.of (hs _ (List.mem_of_getElem? (i := 61) rfl)), List.forall_mem_cons.mpr ⟨va_Nc.of (hs _ (List.mem_of_getElem? (i := 73) rfl)), List.forall_mem_cons.mpr ⟨va_Nc.of (hs _ (List.mem_of_getElem? (i := 16) rfl)), List.forall_mem_cons.mpr ⟨va_Nc.of (hs _ (List.mem_of_getElem? (i := 28) rfl)), List.forall_mem_cons.mpr ⟨va_Nc.of (hs _ (List.mem_of_getElem? (i := 39) rfl)), List.forall_mem_cons.mpr ⟨va_Nc.of (hs _ (List.mem_of_getElem? (i := 62) rfl)), List.forall_mem_cons.mpr ⟨va_Nc.of (hs _ (List.mem_of_getElem? (i := 74) rfl)), List.forall_mem_cons.mpr ⟨va_Nc.of (hs _ (List.mem_of_getElem? (i := 17) rfl)), List.forall_mem_cons.mpr ⟨va_Nc.of (hs _ (List.mem_of_getElem? (i := 40) rfl)), List.forall_mem_cons.mpr ⟨va_Nc.of (hs _ (List.mem_of_getElem? (i := 51) rfl)), List.forall_mem_cons.mpr ⟨va_Nc.of (hs _ (List.mem_of_getElem? (i := 75) rfl)), List.forall_mem_cons.mpr ⟨va_Nc.of (hs _ (List.mem_of_getElem? (i := 18) rfl)), List.forall_mem_cons.mpr ⟨va_Nc.of (hs _ (List.mem_of_getElem? (i := 29) rfl)), List.forall_mem_cons.mpr ⟨va_Nc.of (hs _ (List.mem_of_getElem? (i := 52) rfl)), List.forall_mem_cons.mpr ⟨va_Nc.of (hs _ (List.mem_of_getElem? (i := 63) rfl)), List.forall_mem_cons.mpr ⟨va_Nc.of (hs _ (List.mem_of_getElem? (i := 19) rfl)), List.forall_mem_cons.mpr ⟨va_Nc.of (hs _ (List.mem_of_getElem? (i := 30) rfl)), List.forall_mem_cons.mpr ⟨va_Nc.of (hs _ (List.mem_of_getElem? (i := 41) rfl)), List.forall_mem_cons.mpr ⟨va_Nc.of (hs _ (List.mem_of_getElem? (i := 64) rfl)), List.forall_mem_cons.mpr ⟨va_Nc.of (hs _ (List.mem_of_getElem? (i := 76) rfl)), fun _ h => absurd h List.not_mem_nil⟩⟩⟩⟩⟩⟩⟩⟩⟩⟩⟩⟩⟩⟩⟩⟩⟩⟩⟩⟩⟩⟩⟩⟩⟩⟩⟩⟩⟩⟩⟩⟩⟩
theorem st_yes {s : State} {b : Nat} (hts : ∀ w ∈ lw_tbl, w.before #[Value.ref b] s = true) : ∀ q ∈ gYes, va_Nw (.castable q.1 q.2) s :=
  List.forall_mem_cons.mpr ⟨va_tabs rfl rfl (hts _ (tm7 _ (List.mem_of_getElem? (i := 221) (by decide +kernel)))), List.forall_mem_cons.mpr ⟨va_tabs rfl rfl (hts _ (tm7 _ (List.mem_of_getElem? (i := 222) (by decide +kernel)))), List.forall_mem_cons.mpr ⟨va_tabs rfl rfl (hts _ (tm7 _ (List.mem_of_getElem? (i := 223) (by decide +kernel)))), List.forall_mem_cons.mpr ⟨va_tabs rfl rfl (hts _ (tm7 _ (List.mem_of_getElem? (i := 224) (by decide +kernel)))), List.forall_mem_cons.mpr ⟨va_tabs rfl rfl (hts _ (tm7 _ (List.mem_of_getElem? (i := 225) (by decide +kernel)))), List.forall_mem_cons.mpr ⟨va_tabs rfl rfl (hts _ (tm7 _ (List.mem_of_getElem? (i := 226) (by decide +kernel)))), List.forall_mem_cons.mpr ⟨va_tabs rfl rfl (hts _ (tm7 _ (List.mem_of_getElem? (i := 227) (by decide +kernel)))), List.forall_mem_cons.mpr ⟨va_tabs rfl rfl (hts _ (tm7 _ (List.mem_of_getElem? (i := 228) (by decide +kernel)))), List.forall_mem_cons.mpr ⟨va_tabs rfl rfl (hts _ (tm7 _ (List.mem_of_getElem? (i := 229) (by decide +kernel)))), fun _ h => absurd h List.not_mem_nil⟩⟩⟩⟩⟩⟩⟩⟩⟩
theorem st_nest {s : State} {b : Nat} (hts : ∀ w ∈ lw_tbl, w.before #[Value.ref b] s = true) : ∀ q ∈ gNest, va_Nw (.methodLinkNest q.1 q.2.1 q.2.2.1 q.2.2.2) s :=
  List.forall_mem_cons.mpr ⟨va_tabs rfl rfl (hts _ (tm2 _ (List.mem_of_getElem? (i := 184) (by decide +kernel)))), List.forall_mem_cons.mpr ⟨va_tabs rfl rfl (hts _ (tm4 _ (List.mem_of_getElem? (i := 21) (by decide +kernel)))), List.forall_mem_cons.mpr ⟨va_tabs rfl rfl (hts _ (tm4 _ (List.mem_of_getElem? (i := 29) (by decide +kernel)))), List.forall_mem_cons.mpr ⟨va_tabs rfl rfl (hts _ (tm4 _ (List.mem_of_getElem? (i := 36) (by decide +kernel)))), List.forall_mem_cons.mpr ⟨va_tabs rfl rfl (hts _ (tm4 _ (List.mem_of_getElem? (i := 57) (by decide +kernel)))), fun _ h => absurd h List.not_mem_nil⟩⟩⟩⟩⟩
theorem st_str {s : State} {b : Nat} (hts : ∀ w ∈ lw_tbl, w.before #[Value.ref b] s = true) (hs : ∀ c ∈ flatC (Jvm.Cond.and given_1 narrow_1), c.before #[Value.ref b] s = true) : ∃ adK adV : Nat → Nat, gS (fun q => s.heap.size ≤ q) adK adV s := by
  have hA : ∀ a : Nat, a < s.heap.size → ¬ (fun q => s.heap.size ≤ q) a := fun a h => Nat.not_le.mpr h
  obtain ⟨adK, adV, h1, h2⟩ := vk_Sof (args := #[Value.ref b]) (s := s) (N := 5) (tm := (fun i => Term.string RX4 (strJ.getD i (0, "")).1)) (len := lenJ) (byt := bytJ) (A := fun q => s.heap.size ≤ q)
    (fun i hi => Nat.lt_trans (lenJ_lt i hi) (by decide))
    (fun i hi => match i, hi with
      | 0, _ => (hs _ (List.mem_of_getElem? (i := 146) rfl))
      | 1, _ => (hs _ (List.mem_of_getElem? (i := 155) rfl))
      | 2, _ => (hs _ (List.mem_of_getElem? (i := 166) rfl))
      | 3, _ => (hs _ (List.mem_of_getElem? (i := 177) rfl))
      | 4, _ => (hs _ (List.mem_of_getElem? (i := 190) rfl))
      | i + 5, hi => absurd hi (by omega))
    (fun i hi => match i, hi with
      | 0, _ => (hs _ (List.mem_of_getElem? (i := 147) rfl))
      | 1, _ => (hs _ (List.mem_of_getElem? (i := 156) rfl))
      | 2, _ => (hs _ (List.mem_of_getElem? (i := 167) rfl))
      | 3, _ => (hs _ (List.mem_of_getElem? (i := 178) rfl))
      | 4, _ => (hs _ (List.mem_of_getElem? (i := 191) rfl))
      | i + 5, hi => absurd hi (by omega))
    (fun i hi => match i, hi with
      | 0, _ => (hs _ (List.mem_of_getElem? (i := 148) rfl))
      | 1, _ => (hs _ (List.mem_of_getElem? (i := 157) rfl))
      | 2, _ => (hs _ (List.mem_of_getElem? (i := 168) rfl))
      | 3, _ => (hs _ (List.mem_of_getElem? (i := 179) rfl))
      | 4, _ => (hs _ (List.mem_of_getElem? (i := 192) rfl))
      | i + 5, hi => absurd hi (by omega))
    (fun i hi => match i, hi with
      | 0, _ => (hs _ (List.mem_of_getElem? (i := 149) rfl))
      | 1, _ => (hs _ (List.mem_of_getElem? (i := 158) rfl))
      | 2, _ => (hs _ (List.mem_of_getElem? (i := 169) rfl))
      | 3, _ => (hs _ (List.mem_of_getElem? (i := 180) rfl))
      | 4, _ => (hs _ (List.mem_of_getElem? (i := 193) rfl))
      | i + 5, hi => absurd hi (by omega))
    (fun i hi => match i, hi with
      | 0, _ => fun j hj => match j, hj with
        | 0, _ => (hs _ (List.mem_of_getElem? (i := 150) rfl))
        | 1, _ => (hs _ (List.mem_of_getElem? (i := 151) rfl))
        | 2, _ => (hs _ (List.mem_of_getElem? (i := 152) rfl))
        | 3, _ => (hs _ (List.mem_of_getElem? (i := 153) rfl))
        | 4, _ => (hs _ (List.mem_of_getElem? (i := 154) rfl))
        | j + 5, hj => absurd hj (by show ¬ j + 5 < 5; omega)
      | 1, _ => fun j hj => match j, hj with
        | 0, _ => (hs _ (List.mem_of_getElem? (i := 159) rfl))
        | 1, _ => (hs _ (List.mem_of_getElem? (i := 160) rfl))
        | 2, _ => (hs _ (List.mem_of_getElem? (i := 161) rfl))
        | 3, _ => (hs _ (List.mem_of_getElem? (i := 162) rfl))
        | 4, _ => (hs _ (List.mem_of_getElem? (i := 163) rfl))
        | 5, _ => (hs _ (List.mem_of_getElem? (i := 164) rfl))
        | j + 6, hj => absurd hj (by show ¬ j + 6 < 6; omega)
      | 2, _ => fun j hj => match j, hj with
        | 0, _ => (hs _ (List.mem_of_getElem? (i := 170) rfl))
        | 1, _ => (hs _ (List.mem_of_getElem? (i := 171) rfl))
        | 2, _ => (hs _ (List.mem_of_getElem? (i := 172) rfl))
        | 3, _ => (hs _ (List.mem_of_getElem? (i := 173) rfl))
        | 4, _ => (hs _ (List.mem_of_getElem? (i := 174) rfl))
        | j + 5, hj => absurd hj (by show ¬ j + 5 < 5; omega)
      | 3, _ => fun j hj => match j, hj with
        | 0, _ => (hs _ (List.mem_of_getElem? (i := 181) rfl))
        | 1, _ => (hs _ (List.mem_of_getElem? (i := 182) rfl))
        | 2, _ => (hs _ (List.mem_of_getElem? (i := 183) rfl))
        | 3, _ => (hs _ (List.mem_of_getElem? (i := 184) rfl))
        | 4, _ => (hs _ (List.mem_of_getElem? (i := 185) rfl))
        | 5, _ => (hs _ (List.mem_of_getElem? (i := 186) rfl))
        | j + 6, hj => absurd hj (by show ¬ j + 6 < 6; omega)
      | 4, _ => fun j hj => match j, hj with
        | 0, _ => (hs _ (List.mem_of_getElem? (i := 194) rfl))
        | 1, _ => (hs _ (List.mem_of_getElem? (i := 195) rfl))
        | 2, _ => (hs _ (List.mem_of_getElem? (i := 196) rfl))
        | j + 3, hj => absurd hj (by show ¬ j + 3 < 3; omega)
      | i + 5, hi => absurd hi (by omega))
    (fun i j hi hj hij => match i, hi, j, hj, hij with
      | 0, _, 0, _, hij => absurd rfl hij
      | 0, _, 1, _, _ => Or.inl (hs _ (List.mem_of_getElem? (i := 165) rfl))
      | 0, _, 2, _, _ => Or.inl (hs _ (List.mem_of_getElem? (i := 175) rfl))
      | 0, _, 3, _, _ => Or.inl (hs _ (List.mem_of_getElem? (i := 187) rfl))
      | 0, _, 4, _, _ => Or.inl (hs _ (List.mem_of_getElem? (i := 197) rfl))
      | 1, _, 0, _, _ => Or.inr (hs _ (List.mem_of_getElem? (i := 165) rfl))
      | 1, _, 1, _, hij => absurd rfl hij
      | 1, _, 2, _, _ => Or.inl (hs _ (List.mem_of_getElem? (i := 176) rfl))
      | 1, _, 3, _, _ => Or.inl (hs _ (List.mem_of_getElem? (i := 188) rfl))
      | 1, _, 4, _, _ => Or.inl (hs _ (List.mem_of_getElem? (i := 198) rfl))
      | 2, _, 0, _, _ => Or.inr (hs _ (List.mem_of_getElem? (i := 175) rfl))
      | 2, _, 1, _, _ => Or.inr (hs _ (List.mem_of_getElem? (i := 176) rfl))
      | 2, _, 2, _, hij => absurd rfl hij
      | 2, _, 3, _, _ => Or.inl (hs _ (List.mem_of_getElem? (i := 189) rfl))
      | 2, _, 4, _, _ => Or.inl (hs _ (List.mem_of_getElem? (i := 199) rfl))
      | 3, _, 0, _, _ => Or.inr (hs _ (List.mem_of_getElem? (i := 187) rfl))
      | 3, _, 1, _, _ => Or.inr (hs _ (List.mem_of_getElem? (i := 188) rfl))
      | 3, _, 2, _, _ => Or.inr (hs _ (List.mem_of_getElem? (i := 189) rfl))
      | 3, _, 3, _, hij => absurd rfl hij
      | 3, _, 4, _, _ => Or.inl (hs _ (List.mem_of_getElem? (i := 200) rfl))
      | 4, _, 0, _, _ => Or.inr (hs _ (List.mem_of_getElem? (i := 197) rfl))
      | 4, _, 1, _, _ => Or.inr (hs _ (List.mem_of_getElem? (i := 198) rfl))
      | 4, _, 2, _, _ => Or.inr (hs _ (List.mem_of_getElem? (i := 199) rfl))
      | 4, _, 3, _, _ => Or.inr (hs _ (List.mem_of_getElem? (i := 200) rfl))
      | 4, _, 4, _, hij => absurd rfl hij
      | i + 5, hi, _, _, _ => absurd hi (by omega)
      | _, _, j + 5, hj, _ => absurd hj (by omega))
    hA
  refine ⟨adK, adV, h1, ?_, ?_, ?_⟩
  · exact fun i hi => match i, hi with
      | 0, _ => vk_R.of (hts _ (tm3 _ (List.mem_of_getElem? (i := 36) (by decide +kernel)))) (h2 0 (by decide))
      | 1, _ => vk_R.of (hts _ (tm3 _ (List.mem_of_getElem? (i := 93) (by decide +kernel)))) (h2 1 (by decide))
      | 2, _ => vk_R.of (hts _ (tm3 _ (List.mem_of_getElem? (i := 94) (by decide +kernel)))) (h2 2 (by decide))
      | 3, _ => vk_R.of (hts _ (tm3 _ (List.mem_of_getElem? (i := 128) (by decide +kernel)))) (h2 3 (by decide))
      | 4, _ => vk_R.of (hts _ (tm3 _ (List.mem_of_getElem? (i := 190) (by decide +kernel)))) (h2 4 (by decide))
      | i + 5, hi => absurd hi (by omega)
  · exact va_Zof (hts _ (tm3 _ (List.mem_of_getElem? (i := 50) (by decide +kernel)))) (hts _ (tm1 _ (List.mem_of_getElem? (i := 15) (by decide +kernel)))) (va_eqi (hs _ (List.mem_of_getElem? (i := 4) rfl))) hA
  · exact va_Zqof (hts _ (tm3 _ (List.mem_of_getElem? (i := 66) (by decide +kernel)))) (hts _ (tm1 _ (List.mem_of_getElem? (i := 17) (by decide +kernel)))) (hs _ (List.mem_of_getElem? (i := 5) rfl)) hA
theorem st_K {s : State} {b : Nat} (hts : ∀ w ∈ lw_tbl, w.before #[Value.ref b] s = true) : ∃ (D : va_G) (cy : Nat → ClassId), va_K D vwCl (gTys cy) s := by
  have hws : ∀ w ∈ WS, w.before #[Value.ref b] s = true := fun w h => hts w (WS_in w h)
  obtain ⟨c0, i0, hK0⟩ := u_known (C := RX0) (T := TX0) (N := 6) (n := 6) hws inW0 (hws _ kw215)
  obtain ⟨c1, i1, hK1⟩ := u_known (C := RX1) (T := TX1) (N := 6) (n := 6) hws inW1 (hws _ kw203)
  obtain ⟨c2, i2, hK2⟩ := u_known (C := RX2) (T := TX2) (N := 17) (n := 17) hws inW2 (hws _ kw14)
  obtain ⟨c3, i3, hK3⟩ := u_known (C := RX3) (T := TX3) (N := 6) (n := 6) hws inW3 (hws _ kw37)
  obtain ⟨c4, i4, hK4⟩ := u_known (C := RX4) (T := TX4) (N := 4) (n := 4) hws inW4 (hws _ kw23)
  obtain ⟨c5, i5, hK5⟩ := u_known (C := RX5) (T := TX5) (N := 6) (n := 6) hws inW5 (hws _ kw209)
  obtain ⟨c6, i6, hK6⟩ := u_known (C := RX6) (T := TX6) (N := 6) (n := 6) hws inW6 (hws _ kw206)
  obtain ⟨c7, i7, hK7⟩ := u_known (C := RX7) (T := TX7) (N := 6) (n := 6) hws inW7 (hws _ kw212)
  obtain ⟨c8, i8, hK8⟩ := u_known (C := RX8) (T := TX8) (N := 8) (n := 8) hws inW8 (hws _ kw218)
  obtain ⟨c9, i9, hK9⟩ := u_known (C := RX9) (T := TX9) (N := 6) (n := 6) hws inW9 (hws _ kw220)
  obtain ⟨c10, i10, hK10⟩ := u_known (C := RX10) (T := TX10) (N := 10) (n := 10) hws inW10 (hws _ kw27)
  obtain ⟨c11, i11, hK11⟩ := u_known (C := RX11) (T := TX11) (N := 13) (n := 13) hws inW11 (hws _ kw1)
  obtain ⟨c12, i12, hK12⟩ := u_known (C := RX12) (T := TX12) (N := 74) (n := 74) hws inW12 (hws _ kw4)
  obtain ⟨a0, k0, p0, x1, x2, x3⟩ := Cond.arrayClass_spec (hws _ kw30)
  obtain ⟨a1, k1, p1, y1, y2, y3⟩ := Cond.arrayClass_spec (hws _ kw55)
  obtain ⟨a2, k2, p2, z1, z2, z3⟩ := Cond.arrayClass_spec (hws _ kw104)
  obtain ⟨a3, k3, p3, u1, u2, u3⟩ := Cond.arrayClass_spec (hws _ kw34)
  obtain ⟨p4, a4, k4, v1, v2, v3, v4, v5⟩ := Cond.arrayOver_spec (hts (Cond.arrayOver (.object "OnTiptoe$Night")) (tm1 _ (List.mem_of_getElem? (i := 111) (by decide +kernel))))
  obtain ⟨p5, a5, k5, w1, w2, w3, w4, w5⟩ := Cond.arrayOver_spec (hts (Cond.arrayOver (.object "OnTiptoe$Walker")) (tm1 _ (List.mem_of_getElem? (i := 109) (by decide +kernel))))
  obtain ⟨p6, a6, k6, t1, t2, t3, t4, t5⟩ := arrayOverA_spec (hts (Cond.arrayOver (.array .long)) (tm1 _ (List.mem_of_getElem? (i := 176) (by decide +kernel))))
  refine ⟨(fun k => [c0, c1, c2, c3, c4, c5, c6, c7, c8, c9, c10, c11, c12].getD k c0, fun k => [i0, i1, i2, i3, i4, i5, i6, i7, i8, i9, i10, i11, i12].getD k i0), fun k => [a0, a1, a2, a3, a4, a5, a6].getD k a0, fun k q hq => ?_, fun k q hq => ?_⟩
  · match k, hq with
    | 0, hq => cases hq; exact hK0
    | 1, hq => cases hq; exact hK1
    | 2, hq => cases hq; exact hK2
    | 3, hq => cases hq; exact hK3
    | 4, hq => cases hq; exact hK4
    | 5, hq => cases hq; exact hK5
    | 6, hq => cases hq; exact hK6
    | 7, hq => cases hq; exact hK7
    | 8, hq => cases hq; exact hK8
    | 9, hq => cases hq; exact hK9
    | 10, hq => cases hq; exact hK10
    | 11, hq => cases hq; exact hK11
    | 12, hq => cases hq; exact hK12
    | k + 13, hq => cases hq
  · match k, hq with
    | 0, hq => cases hq; exact ⟨fun n z => ⟨fun k h => (by cases h), k0, x2, p0, x3⟩, x1⟩
    | 1, hq => cases hq; exact ⟨fun n z => ⟨fun k h => (by cases h), k1, y2, p1, y3⟩, y1⟩
    | 2, hq => cases hq; exact ⟨fun n z => ⟨fun k h => (by cases h), k2, z2, p2, z3⟩, z1⟩
    | 3, hq => cases hq; exact ⟨fun n z => ⟨fun k h => (by cases h), k3, u2, p3, u3⟩, u1⟩
    | 4, hq => cases hq; exact ⟨fun n z => ⟨fun k h => (by cases h), k4, v3, p4, v4⟩, k4, p4, v3, v4, v1, v5⟩
    | 5, hq => cases hq; exact ⟨fun n z => ⟨fun k h => (by cases h), k5, w3, p5, w4⟩, k5, p5, w3, w4, w1, w5⟩
    | 6, hq => cases hq; exact ⟨fun n z => ⟨fun k h => (by cases h), k6, t3, p6, t4⟩, t5⟩
    | k + 7, hq => cases hq
theorem st_E {s : State} {b : Nat} (hts : ∀ w ∈ lw_tbl, w.before #[Value.ref b] s = true) (hs : ∀ c ∈ flatC (Jvm.Cond.and given_1 narrow_1), c.before #[Value.ref b] s = true) : ∃ adK adV : Nat → Nat, EZ s.heap.size adK adV s := by
  obtain ⟨adK, adV, h⟩ := st_str hts hs
  exact ⟨adK, adV, Nat.le_refl _, ⟨⟨st_nest hts, st_yes hts, st_no hs⟩, va_AO.of (hts (Cond.arrayOver (.object "OnTiptoe$Walker")) (tm1 _ (List.mem_of_getElem? (i := 109) (by decide +kernel)))), va_AO.of (hts (Cond.arrayOver (.object "OnTiptoe$Night")) (tm1 _ (List.mem_of_getElem? (i := 111) (by decide +kernel)))), (hts (Cond.arrayOver (.array .long)) (tm1 _ (List.mem_of_getElem? (i := 176) (by decide +kernel))))⟩, h⟩

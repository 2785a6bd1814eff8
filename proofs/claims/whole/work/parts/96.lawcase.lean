/-! the law, case by case -/
theorem lg_self (x : Int64) : lg_cmp x x = 0 := by unfold lg_cmp; simp
section LA
variable {p : Program} {l : Launch} {e : Env} {R : Room} {s : State} {m : MethodId} {args : Array Value} {below : List Frame} {meth : Method} {c : Code} {H : Heap} {locs : List Loc} {cells slots : Nat} {Q : State → Prop}
variable {cc : ByteArray} {nL : Nat} {own : String} {pc : Nat} {ls : Array Slot} {rest : List Value} {D : va_G} {cy : Nat → ClassId}
theorem L_arg {b len i k ax am : Nat} {n : Int} {xs : Nat → Int32} (hC : gC p s m args meth c cc nL own D cy) (hX : va_X b len xs s s.heap) (hbl : b < s.heap.size) (hS : va_S (fun q => s.heap.size ≤ q) s.heap H locs) (hl : lv_has ls 4 [(3, .int (nI i)), (2, .ref am), (1, .ref ax), (0, .ref b)]) (hk : Int32.ofInt n = nI k) (d0 : decode cc pc = .ok (.aload_n 0, 1)) (d1 : decode cc (pc + 1) = .ok (.iload_n 3, 1)) (d2 : decode cc (pc + 1 + 1) = .ok (.iconst n, 1)) (d3 : decode cc (pc + 1 + 1 + 1) = .ok (.iadd, 1)) (d4 : decode cc (pc + 1 + 1 + 1 + 1) = .ok (.iaload, 1)) (hi : i + k < len) (hlen : len ≤ 3072)
    (kk : W p l e R s m args below meth c H locs cells slots Q (F0 m (pc + 1 + 1 + 1 + 1 + 1) ls (.int (xs (i + k)) :: rest))) : W p l e R s m args below meth c H locs cells slots Q (F0 m pc ls rest) := by
  refine lv_aload_n hC.x hC.b d0 rfl (lv_at hl 3 rfl) ?_
  refine lv_iload_n hC.x hC.b d1 rfl (lv_at hl 0 rfl) ?_
  refine lv_iconst (v := nI k) hC.x hC.b d2 hk ?_
  refine lv_iadd hC.x hC.b d3 ?_
  rw [nI_add]
  exact L_s hC hX hbl hS hi hlen d4 kk
end LA
theorem aL_X11_creak : noMH yX11_creak.cls ∧ arity yX11_creak.desc 2 := by decide +kernel
theorem aL_X12_creak : noMH yX12_creak.cls ∧ arity yX12_creak.desc 2 := by decide +kernel
theorem aL_X11_toy : noMH yX11_toy.cls ∧ arity yX11_toy.desc 2 := by decide +kernel
theorem aL_X12_toy : noMH yX12_toy.cls ∧ arity yX12_toy.desc 2 := by decide +kernel
theorem aL_X11_door : noMH yX11_door.cls ∧ arity yX11_door.desc 1 := by decide +kernel
theorem aL_X12_door : noMH yX12_door.cls ∧ arity yX12_door.desc 1 := by decide +kernel
theorem aL_X11_of : noMH yX11_of.cls ∧ arity yX11_of.desc 2 := by decide +kernel
theorem aL_X12_of : noMH yX12_of.cls ∧ arity yX12_of.desc 2 := by decide +kernel
theorem aL_X11_put : noMH yX11_put.cls ∧ arity yX11_put.desc 2 := by decide +kernel
theorem aL_X12_put : noMH yX12_put.cls ∧ arity yX12_put.desc 2 := by decide +kernel
theorem aL_X11_row : noMH yX11_row.cls ∧ arity yX11_row.desc 3 := by decide +kernel
theorem aL_X12_row : noMH yX12_row.cls ∧ arity yX12_row.desc 3 := by decide +kernel
theorem aL_X11_feed : noMH yX11_feed.cls ∧ arity yX11_feed.desc 1 := by decide +kernel
theorem aL_X12_feed : noMH yX12_feed.cls ∧ arity yX12_feed.desc 1 := by decide +kernel
theorem aL_X11_night : noMH yX11_night.cls ∧ arity yX11_night.desc 0 := by decide +kernel
theorem aL_X12_night : noMH yX12_night.cls ∧ arity yX12_night.desc 0 := by decide +kernel
theorem aL_X11_told : noMH yX11_told.cls ∧ arity yX11_told.desc 1 := by decide +kernel
theorem aL_X12_told : noMH yX12_told.cls ∧ arity yX12_told.desc 1 := by decide +kernel
theorem aL_X11_step : noMH yX11_step.cls ∧ arity yX11_step.desc 2 := by decide +kernel
theorem aL_X12_step : noMH yX12_step.cls ∧ arity yX12_step.desc 2 := by decide +kernel
theorem aL_X11_still : noMH yX11_still.cls ∧ arity yX11_still.desc 1 := by decide +kernel
theorem aL_X12_still : noMH yX12_still.cls ∧ arity yX12_still.desc 1 := by decide +kernel
theorem aL_X11_lull : noMH yX11_lull.cls ∧ arity yX11_lull.desc 0 := by decide +kernel
theorem aL_X12_lull : noMH yX12_lull.cls ∧ arity yX12_lull.desc 0 := by decide +kernel
theorem aL_X11_way : noMH yX11_way.cls ∧ arity yX11_way.desc 1 := by decide +kernel
theorem aL_X12_way : noMH yX12_way.cls ∧ arity yX12_way.desc 1 := by decide +kernel
theorem aL_X11_goes : noMH yX11_goes.cls ∧ arity yX11_goes.desc 2 := by decide +kernel
theorem aL_X12_goes : noMH yX12_goes.cls ∧ arity yX12_goes.desc 2 := by decide +kernel
theorem aL_X11_out : noMH yX11_out.cls ∧ arity yX11_out.desc 1 := by decide +kernel
theorem aL_X12_out : noMH yX12_out.cls ∧ arity yX12_out.desc 1 := by decide +kernel
theorem aL_X11_quiet : noMH yX11_quiet.cls ∧ arity yX11_quiet.desc 2 := by decide +kernel
theorem aL_X12_quiet : noMH yX12_quiet.cls ∧ arity yX12_quiet.desc 2 := by decide +kernel
theorem aL_X11_set : noMH yX11_set.cls ∧ arity yX11_set.desc 2 := by decide +kernel
theorem aL_X12_set : noMH yX12_set.cls ∧ arity yX12_set.desc 2 := by decide +kernel
theorem aL_X11_mend : noMH yX11_mend.cls ∧ arity yX11_mend.desc 1 := by decide +kernel
theorem aL_X12_mend : noMH yX12_mend.cls ∧ arity yX12_mend.desc 1 := by decide +kernel
theorem aL_X11_away : noMH yX11_away.cls ∧ arity yX11_away.desc 1 := by decide +kernel
theorem aL_X12_away : noMH yX12_away.cls ∧ arity yX12_away.desc 1 := by decide +kernel
theorem aL_X11_from : noMH yX11_from.cls ∧ arity yX11_from.desc 1 := by decide +kernel
theorem aL_X12_from : noMH yX12_from.cls ∧ arity yX12_from.desc 1 := by decide +kernel
theorem aL_X11_deeper : noMH yX11_deeper.cls ∧ arity yX11_deeper.desc 1 := by decide +kernel
theorem aL_X12_deeper : noMH yX12_deeper.cls ∧ arity yX12_deeper.desc 1 := by decide +kernel
theorem aL_X11_see : noMH yX11_see.cls ∧ arity yX11_see.desc 3 := by decide +kernel
theorem aL_X12_see : noMH yX12_see.cls ∧ arity yX12_see.desc 3 := by decide +kernel
theorem aL_X11_who : noMH yX11_who.cls ∧ arity yX11_who.desc 0 := by decide +kernel
theorem aL_X12_who : noMH yX12_who.cls ∧ arity yX12_who.desc 0 := by decide +kernel
theorem aL_X11_odds : noMH yX11_odds.cls ∧ arity yX11_odds.desc 2 := by decide +kernel
theorem aL_X12_odds : noMH yX12_odds.cls ∧ arity yX12_odds.desc 2 := by decide +kernel
theorem aL_X11_mean : noMH yX11_mean.cls ∧ arity yX11_mean.desc 2 := by decide +kernel
theorem aL_X12_mean : noMH yX12_mean.cls ∧ arity yX12_mean.desc 2 := by decide +kernel
theorem aL_X11_book : noMH yX11_book.cls ∧ arity yX11_book.desc 1 := by decide +kernel
theorem aL_X12_book : noMH yX12_book.cls ∧ arity yX12_book.desc 1 := by decide +kernel
theorem aL_X11_looked : noMH yX11_looked.cls ∧ arity yX11_looked.desc 0 := by decide +kernel
theorem aL_X12_looked : noMH yX12_looked.cls ∧ arity yX12_looked.desc 0 := by decide +kernel
theorem aL_X11_judge : noMH yX11_judge.cls ∧ arity yX11_judge.desc 2 := by decide +kernel
theorem aL_X12_judge : noMH yX12_judge.cls ∧ arity yX12_judge.desc 2 := by decide +kernel
theorem aL_X11_image : noMH yX11_image.cls ∧ arity yX11_image.desc 0 := by decide +kernel
theorem aL_X12_image : noMH yX12_image.cls ∧ arity yX12_image.desc 0 := by decide +kernel
theorem aL_X11_undo : noMH yX11_undo.cls ∧ arity yX11_undo.desc 0 := by decide +kernel
theorem aL_X12_undo : noMH yX12_undo.cls ∧ arity yX12_undo.desc 0 := by decide +kernel
theorem aL_X11_act : noMH yX11_act.cls ∧ arity yX11_act.desc 3 := by decide +kernel
theorem aL_X12_act : noMH yX12_act.cls ∧ arity yX12_act.desc 3 := by decide +kernel
theorem aL_X11_trace : noMH yX11_trace.cls ∧ arity yX11_trace.desc 1 := by decide +kernel
theorem aL_X12_trace : noMH yX12_trace.cls ∧ arity yX12_trace.desc 1 := by decide +kernel
theorem aL_X11_taken : noMH yX11_taken.cls ∧ arity yX11_taken.desc 2 := by decide +kernel
theorem aL_X12_taken : noMH yX12_taken.cls ∧ arity yX12_taken.desc 2 := by decide +kernel
theorem aL_X11_count : noMH yX11_count.cls ∧ arity yX11_count.desc 1 := by decide +kernel
theorem aL_X12_count : noMH yX12_count.cls ∧ arity yX12_count.desc 1 := by decide +kernel
theorem aL_X11_tape : noMH yX11_tape.cls ∧ arity yX11_tape.desc 3 := by decide +kernel
theorem aL_X12_tape : noMH yX12_tape.cls ∧ arity yX12_tape.desc 3 := by decide +kernel
theorem aL_X11_item : noMH yX11_item.cls ∧ arity yX11_item.desc 3 := by decide +kernel
theorem aL_X12_item : noMH yX12_item.cls ∧ arity yX12_item.desc 3 := by decide +kernel
theorem aL_X11_read : noMH yX11_read.cls ∧ arity yX11_read.desc 2 := by decide +kernel
theorem aL_X12_read : noMH yX12_read.cls ∧ arity yX12_read.desc 2 := by decide +kernel
theorem aL_X11_shift : noMH yX11_shift.cls ∧ arity yX11_shift.desc 5 := by decide +kernel
theorem aL_X12_shift : noMH yX12_shift.cls ∧ arity yX12_shift.desc 5 := by decide +kernel

theorem goodIn_r {big : List Cond} (ws : List Cond) (ps : List Nat) (hp : ws = ps.filterMap (fun i => big[i]?)) (h : ws.all goodWord = true) : GoodIn big ws := by
  intro w hw
  have h1 := List.all_eq_true.mp h w hw
  rw [hp] at hw
  obtain ⟨i, -, hi⟩ := List.mem_filterMap.mp hw
  exact ⟨List.mem_of_getElem? hi, good_of_word h1⟩
/-- the words that every method of ours asks: all that the tables say, that keeps -/
def WS : List Cond := lw_tbl.filter goodWord
theorem WS_in : ∀ w ∈ WS, w ∈ lw_tbl := fun _ h => (List.mem_filter.mp h).1
theorem WS_good : ∀ w ∈ WS, goodWord w = true := fun _ h => (List.mem_filter.mp h).2
theorem WS_of {w : Cond} (h : w ∈ lw_tbl) (hg : goodWord w = true) : w ∈ WS := List.mem_filter.mpr ⟨h, hg⟩
theorem tm0 : ∀ w ∈ k2_sels lw_privs, w ∈ lw_tbl := fun _ h => List.mem_append_left _ h
theorem tm1 : ∀ w ∈ tables_1_1, w ∈ lw_tbl := fun _ _h => List.mem_append_right _ (List.mem_append_left _ _h)
theorem tm2 : ∀ w ∈ tables_1_2, w ∈ lw_tbl := fun _ _h => List.mem_append_right _ (List.mem_append_right _ (List.mem_append_left _ _h))
theorem tm3 : ∀ w ∈ tables_1_3, w ∈ lw_tbl := fun _ _h => List.mem_append_right _ (List.mem_append_right _ (List.mem_append_right _ (List.mem_append_left _ _h)))
theorem tm4 : ∀ w ∈ tables_1_4, w ∈ lw_tbl := fun _ _h => List.mem_append_right _ (List.mem_append_right _ (List.mem_append_right _ (List.mem_append_right _ (List.mem_append_left _ _h))))
theorem tm5 : ∀ w ∈ tables_1_5, w ∈ lw_tbl := fun _ _h => List.mem_append_right _ (List.mem_append_right _ (List.mem_append_right _ (List.mem_append_right _ (List.mem_append_right _ (List.mem_append_left _ _h)))))
theorem tm6 : ∀ w ∈ tables_1_6, w ∈ lw_tbl := fun _ _h => List.mem_append_right _ (List.mem_append_right _ (List.mem_append_right _ (List.mem_append_right _ (List.mem_append_right _ (List.mem_append_right _ (List.mem_append_left _ _h))))))
theorem tm7 : ∀ w ∈ tables_1_7, w ∈ lw_tbl := fun _ _h => List.mem_append_right _ (List.mem_append_right _ (List.mem_append_right _ (List.mem_append_right _ (List.mem_append_right _ (List.mem_append_right _ (List.mem_append_right _ (_h)))))))
theorem kw0 : Cond.classLink RL 7 RX11 ∈ WS := WS_of (tm1 _ (List.mem_of_getElem? (i := 21) (by decide +kernel))) rfl
theorem kw1 : Cond.instantiable RX11 13 ∈ WS := WS_of (tm1 _ (List.mem_of_getElem? (i := 22) (by decide +kernel))) rfl
theorem kw2 : Cond.initialized RX11 ∈ WS := WS_of (tm1 _ (List.mem_of_getElem? (i := 1) (by decide +kernel))) rfl
theorem kw3 : Cond.classLink RL 10 RX12 ∈ WS := WS_of (tm5 _ (List.mem_of_getElem? (i := 93) (by decide +kernel))) rfl
theorem kw4 : Cond.instantiable RX12 74 ∈ WS := WS_of (tm5 _ (List.mem_of_getElem? (i := 94) (by decide +kernel))) rfl
theorem kw5 : Cond.initialized RX12 ∈ WS := WS_of (tm1 _ (List.mem_of_getElem? (i := 6) (by decide +kernel))) rfl
theorem kw6 : Cond.constantLong RL 164 (4294967295) ∈ WS := WS_of (tm7 _ (List.mem_of_getElem? (i := 208) (by decide +kernel))) rfl
theorem kw7 : Cond.methodLink RL 9 yX11_init ∈ WS := WS_of (tm1 _ (List.mem_of_getElem? (i := 23) (by decide +kernel))) rfl
theorem kw8 : Cond.instanceMethod yX11_init ∈ WS := WS_of (tm1 _ (List.mem_of_getElem? (i := 24) (by decide +kernel))) rfl
theorem kw9 : Cond.code yX11_init cX11_init 2 none ∈ WS := WS_of (tm1 _ (List.mem_of_getElem? (i := 25) rfl)) rfl
theorem kw10 : Cond.methodLink RX11 3 objectInit ∈ WS := WS_of (tm1 _ (List.mem_of_getElem? (i := 26) (by decide +kernel))) rfl
theorem kw11 : Cond.instanceMethod objectInit ∈ WS := WS_of (tm1 _ (List.mem_of_getElem? (i := 27) (by decide +kernel))) rfl
theorem kw12 : Cond.code objectInit ⟨#[0xb1]⟩ 1 none ∈ WS := WS_of (tm1 _ (List.mem_of_getElem? (i := 28) rfl)) rfl
theorem kw13 : Cond.classLink RX11 9 RX2 ∈ WS := WS_of (tm1 _ (List.mem_of_getElem? (i := 29) (by decide +kernel))) rfl
theorem kw14 : Cond.instantiable RX2 17 ∈ WS := WS_of (tm1 _ (List.mem_of_getElem? (i := 30) (by decide +kernel))) rfl
theorem kw15 : Cond.initialized RX2 ∈ WS := WS_of (tm1 _ (List.mem_of_getElem? (i := 2) (by decide +kernel))) rfl
theorem kw16 : Cond.fieldLink RX11 12 "OnTiptoe" "now" "LOnTiptoe$House;" ∈ WS := WS_of (tm1 _ (List.mem_of_getElem? (i := 202) (by decide +kernel))) rfl
theorem kw17 : Cond.fieldLink RX11 18 "OnTiptoe" "image" "LOnTiptoe$House;" ∈ WS := WS_of (tm1 _ (List.mem_of_getElem? (i := 203) (by decide +kernel))) rfl
theorem kw18 : Cond.classLink RX11 21 RX9 ∈ WS := WS_of (tm1 _ (List.mem_of_getElem? (i := 108) (by decide +kernel))) rfl
theorem kw19 : Cond.fieldLink RX11 23 "OnTiptoe" "walkers" "[LOnTiptoe$Walker;" ∈ WS := WS_of (tm1 _ (List.mem_of_getElem? (i := 205) (by decide +kernel))) rfl
theorem kw20 : Cond.classLink RX11 27 RX3 ∈ WS := WS_of (tm1 _ (List.mem_of_getElem? (i := 110) (by decide +kernel))) rfl
theorem kw21 : Cond.fieldLink RX11 29 "OnTiptoe" "nights" "[LOnTiptoe$Night;" ∈ WS := WS_of (tm1 _ (List.mem_of_getElem? (i := 206) (by decide +kernel))) rfl
theorem kw22 : Cond.classLink RX11 33 RX4 ∈ WS := WS_of (tm1 _ (List.mem_of_getElem? (i := 112) (by decide +kernel))) rfl
theorem kw23 : Cond.instantiable RX4 4 ∈ WS := WS_of (tm1 _ (List.mem_of_getElem? (i := 113) (by decide +kernel))) rfl
theorem kw24 : Cond.initialized RX4 ∈ WS := WS_of (tm1 _ (List.mem_of_getElem? (i := 3) (by decide +kernel))) rfl
theorem kw25 : Cond.fieldLink RX11 36 "OnTiptoe" "reader" "LOnTiptoe$Reader;" ∈ WS := WS_of (tm1 _ (List.mem_of_getElem? (i := 208) (by decide +kernel))) rfl
theorem kw26 : Cond.classLink RX11 40 RX10 ∈ WS := WS_of (tm1 _ (List.mem_of_getElem? (i := 133) (by decide +kernel))) rfl
theorem kw27 : Cond.instantiable RX10 10 ∈ WS := WS_of (tm1 _ (List.mem_of_getElem? (i := 134) (by decide +kernel))) rfl
theorem kw28 : Cond.initialized RX10 ∈ WS := WS_of (tm1 _ (List.mem_of_getElem? (i := 4) (by decide +kernel))) rfl
theorem kw29 : Cond.fieldLink RX11 43 "OnTiptoe" "ways" "LOnTiptoe$Ways;" ∈ WS := WS_of (tm1 _ (List.mem_of_getElem? (i := 209) (by decide +kernel))) rfl
theorem kw30 : Cond.arrayClass .int ∈ WS := WS_of (tm1 _ (List.mem_of_getElem? (i := 107) (by decide +kernel))) rfl
theorem kw31 : Cond.fieldLink RX11 47 "OnTiptoe" "tapeSort" "[I" ∈ WS := WS_of (tm1 _ (List.mem_of_getElem? (i := 211) (by decide +kernel))) rfl
theorem kw32 : Cond.fieldLink RX11 51 "OnTiptoe" "tapeLength" "[I" ∈ WS := WS_of (tm1 _ (List.mem_of_getElem? (i := 212) (by decide +kernel))) rfl
theorem kw33 : Cond.classLink RX11 54 "[[J" ∈ WS := WS_of (tm1 _ (List.mem_of_getElem? (i := 175) (by decide +kernel))) rfl
theorem kw34 : Cond.arrayClass .long ∈ WS := WS_of (tm1 _ (List.mem_of_getElem? (i := 201) (by decide +kernel))) rfl
theorem kw35 : Cond.fieldLink RX11 56 "OnTiptoe" "tapeItems" "[[J" ∈ WS := WS_of (tm1 _ (List.mem_of_getElem? (i := 213) (by decide +kernel))) rfl
theorem kw36 : Cond.fieldLink RX11 59 "OnTiptoe" "moved" "[J" ∈ WS := WS_of (tm1 _ (List.mem_of_getElem? (i := 214) (by decide +kernel))) rfl
theorem kw37 : Cond.instantiable RX3 6 ∈ WS := WS_of (tm1 _ (List.mem_of_getElem? (i := 177) (by decide +kernel))) rfl
theorem kw38 : Cond.initialized RX3 ∈ WS := WS_of (tm1 _ (List.mem_of_getElem? (i := 5) (by decide +kernel))) rfl
theorem kw39 : Cond.methodLink RX11 11 yX2_init ∈ WS := WS_of (tm1 _ (List.mem_of_getElem? (i := 31) (by decide +kernel))) rfl
theorem kw40 : Cond.instanceMethod yX2_init ∈ WS := WS_of (tm1 _ (List.mem_of_getElem? (i := 32) (by decide +kernel))) rfl
theorem kw41 : Cond.code yX2_init cX2_init 2 none ∈ WS := WS_of (tm1 _ (List.mem_of_getElem? (i := 33) rfl)) rfl
theorem kw42 : Cond.methodLink RX2 3 objectInit ∈ WS := WS_of (tm1 _ (List.mem_of_getElem? (i := 34) (by decide +kernel))) rfl
theorem kw43 : Cond.fieldLink RX2 9 "OnTiptoe$House" "creak" "[I" ∈ WS := WS_of (tm1 _ (List.mem_of_getElem? (i := 35) (by decide +kernel))) rfl
theorem kw44 : Cond.fieldLink RX2 15 "OnTiptoe$House" "door" "I" ∈ WS := WS_of (tm1 _ (List.mem_of_getElem? (i := 40) (by decide +kernel))) rfl
theorem kw45 : Cond.fieldLink RX2 19 "OnTiptoe$House" "way" "[I" ∈ WS := WS_of (tm1 _ (List.mem_of_getElem? (i := 51) (by decide +kernel))) rfl
theorem kw46 : Cond.fieldLink RX2 22 "OnTiptoe$House" "seenBoard" "[I" ∈ WS := WS_of (tm1 _ (List.mem_of_getElem? (i := 57) (by decide +kernel))) rfl
theorem kw47 : Cond.fieldLink RX2 25 "OnTiptoe$House" "seenMinutes" "[I" ∈ WS := WS_of (tm1 _ (List.mem_of_getElem? (i := 59) (by decide +kernel))) rfl
theorem kw48 : Cond.fieldLink RX2 28 "OnTiptoe$House" "seenWoke" "[I" ∈ WS := WS_of (tm1 _ (List.mem_of_getElem? (i := 61) (by decide +kernel))) rfl
theorem kw49 : Cond.fieldLink RX2 31 "OnTiptoe$House" "book" "[I" ∈ WS := WS_of (tm1 _ (List.mem_of_getElem? (i := 65) (by decide +kernel))) rfl
theorem kw50 : Cond.fieldLink RX2 34 "OnTiptoe$House" "facts" "[I" ∈ WS := WS_of (tm1 _ (List.mem_of_getElem? (i := 71) (by decide +kernel))) rfl
theorem kw51 : Cond.methodLink RX11 35 yX4_init ∈ WS := WS_of (tm1 _ (List.mem_of_getElem? (i := 114) (by decide +kernel))) rfl
theorem kw52 : Cond.instanceMethod yX4_init ∈ WS := WS_of (tm1 _ (List.mem_of_getElem? (i := 115) (by decide +kernel))) rfl
theorem kw53 : Cond.code yX4_init cX4_init 1 none ∈ WS := WS_of (tm1 _ (List.mem_of_getElem? (i := 116) rfl)) rfl
theorem kw54 : Cond.methodLink RX4 3 objectInit ∈ WS := WS_of (tm1 _ (List.mem_of_getElem? (i := 117) (by decide +kernel))) rfl
theorem kw55 : Cond.arrayClass .byte ∈ WS := WS_of (tm1 _ (List.mem_of_getElem? (i := 132) (by decide +kernel))) rfl
theorem kw56 : Cond.fieldLink RX4 9 "OnTiptoe$Reader" "text" "[B" ∈ WS := WS_of (tm1 _ (List.mem_of_getElem? (i := 118) (by decide +kernel))) rfl
theorem kw57 : Cond.methodLink RX11 42 yX10_init ∈ WS := WS_of (tm1 _ (List.mem_of_getElem? (i := 135) (by decide +kernel))) rfl
theorem kw58 : Cond.instanceMethod yX10_init ∈ WS := WS_of (tm1 _ (List.mem_of_getElem? (i := 136) (by decide +kernel))) rfl
theorem kw59 : Cond.code yX10_init cX10_init 1 none ∈ WS := WS_of (tm1 _ (List.mem_of_getElem? (i := 137) rfl)) rfl
theorem kw60 : Cond.methodLink RX10 3 objectInit ∈ WS := WS_of (tm1 _ (List.mem_of_getElem? (i := 138) (by decide +kernel))) rfl
theorem kw61 : Cond.fieldLink RX10 9 "OnTiptoe$Ways" "noise" "[I" ∈ WS := WS_of (tm1 _ (List.mem_of_getElem? (i := 139) (by decide +kernel))) rfl
theorem kw62 : Cond.fieldLink RX10 15 "OnTiptoe$Ways" "depth" "[I" ∈ WS := WS_of (tm1 _ (List.mem_of_getElem? (i := 140) (by decide +kernel))) rfl
theorem kw63 : Cond.fieldLink RX10 18 "OnTiptoe$Ways" "least" "[I" ∈ WS := WS_of (tm1 _ (List.mem_of_getElem? (i := 143) (by decide +kernel))) rfl
theorem kw64 : Cond.methodLink RX11 63 yX3_init ∈ WS := WS_of (tm1 _ (List.mem_of_getElem? (i := 178) (by decide +kernel))) rfl
theorem kw65 : Cond.instanceMethod yX3_init ∈ WS := WS_of (tm1 _ (List.mem_of_getElem? (i := 179) (by decide +kernel))) rfl
theorem kw66 : Cond.code yX3_init cX3_init 1 none ∈ WS := WS_of (tm1 _ (List.mem_of_getElem? (i := 180) rfl)) rfl
theorem kw67 : Cond.methodLink RX3 3 objectInit ∈ WS := WS_of (tm1 _ (List.mem_of_getElem? (i := 181) (by decide +kernel))) rfl
theorem kw68 : Cond.fieldLink RX3 9 "OnTiptoe$Night" "word" "[I" ∈ WS := WS_of (tm1 _ (List.mem_of_getElem? (i := 183) (by decide +kernel))) rfl
theorem kw69 : Cond.fieldLink RX3 15 "OnTiptoe$Night" "weight" "[I" ∈ WS := WS_of (tm1 _ (List.mem_of_getElem? (i := 184) (by decide +kernel))) rfl
theorem kw70 : Cond.fieldLink RX3 18 "OnTiptoe$Night" "codeEnd" "[I" ∈ WS := WS_of (tm1 _ (List.mem_of_getElem? (i := 185) (by decide +kernel))) rfl
theorem kw71 : Cond.fieldLink RX3 21 "OnTiptoe$Night" "code" "[I" ∈ WS := WS_of (tm1 _ (List.mem_of_getElem? (i := 186) (by decide +kernel))) rfl
theorem kw72 : Cond.methodLink RL 12 yX12_init ∈ WS := WS_of (tm5 _ (List.mem_of_getElem? (i := 95) (by decide +kernel))) rfl
theorem kw73 : Cond.instanceMethod yX12_init ∈ WS := WS_of (tm5 _ (List.mem_of_getElem? (i := 96) (by decide +kernel))) rfl
theorem kw74 : Cond.code yX12_init cX12_init 1 none ∈ WS := WS_of (tm5 _ (List.mem_of_getElem? (i := 97) rfl)) rfl
theorem kw75 : Cond.methodLink RX12 1 objectInit ∈ WS := WS_of (tm5 _ (List.mem_of_getElem? (i := 98) (by decide +kernel))) rfl
theorem kw76 : Cond.fieldLink RX12 7 "OnTiptoeModel" "walkers" "I" ∈ WS := WS_of (tm5 _ (List.mem_of_getElem? (i := 99) (by decide +kernel))) rfl
theorem kw77 : Cond.fieldLink RX12 13 "OnTiptoeModel" "minute" "I" ∈ WS := WS_of (tm5 _ (List.mem_of_getElem? (i := 100) (by decide +kernel))) rfl
theorem kw78 : Cond.fieldLink RX12 16 "OnTiptoeModel" "stirs" "I" ∈ WS := WS_of (tm5 _ (List.mem_of_getElem? (i := 101) (by decide +kernel))) rfl
theorem kw79 : Cond.fieldLink RX12 19 "OnTiptoeModel" "toys" "I" ∈ WS := WS_of (tm5 _ (List.mem_of_getElem? (i := 102) (by decide +kernel))) rfl
theorem kw80 : Cond.fieldLink RX12 22 "OnTiptoeModel" "door" "I" ∈ WS := WS_of (tm5 _ (List.mem_of_getElem? (i := 103) (by decide +kernel))) rfl
theorem kw81 : Cond.fieldLink RX12 25 "OnTiptoeModel" "isAwake" "Z" ∈ WS := WS_of (tm5 _ (List.mem_of_getElem? (i := 104) (by decide +kernel))) rfl
theorem kw82 : Cond.fieldLink RX12 29 "OnTiptoeModel" "creaks" "[I" ∈ WS := WS_of (tm5 _ (List.mem_of_getElem? (i := 105) (by decide +kernel))) rfl
theorem kw83 : Cond.fieldLink RX12 33 "OnTiptoeModel" "kind" "[I" ∈ WS := WS_of (tm5 _ (List.mem_of_getElem? (i := 106) (by decide +kernel))) rfl
theorem kw84 : Cond.fieldLink RX12 36 "OnTiptoeModel" "v" "[I" ∈ WS := WS_of (tm5 _ (List.mem_of_getElem? (i := 107) (by decide +kernel))) rfl
theorem kw85 : Cond.fieldLink RX12 39 "OnTiptoeModel" "is" "[I" ∈ WS := WS_of (tm5 _ (List.mem_of_getElem? (i := 108) (by decide +kernel))) rfl
theorem kw86 : Cond.fieldLink RX12 42 "OnTiptoeModel" "rows" "[I" ∈ WS := WS_of (tm5 _ (List.mem_of_getElem? (i := 109) (by decide +kernel))) rfl
theorem kw87 : Cond.fieldLink RX12 45 "OnTiptoeModel" "nights" "I" ∈ WS := WS_of (tm5 _ (List.mem_of_getElem? (i := 110) (by decide +kernel))) rfl
theorem kw88 : Cond.fieldLink RX12 48 "OnTiptoeModel" "the" "I" ∈ WS := WS_of (tm5 _ (List.mem_of_getElem? (i := 111) (by decide +kernel))) rfl
theorem kw89 : Cond.fieldLink RX12 51 "OnTiptoeModel" "fed" "I" ∈ WS := WS_of (tm5 _ (List.mem_of_getElem? (i := 112) (by decide +kernel))) rfl
theorem kw90 : Cond.fieldLink RX12 54 "OnTiptoeModel" "at" "I" ∈ WS := WS_of (tm5 _ (List.mem_of_getElem? (i := 113) (by decide +kernel))) rfl
theorem kw91 : Cond.fieldLink RX12 57 "OnTiptoeModel" "digits" "I" ∈ WS := WS_of (tm5 _ (List.mem_of_getElem? (i := 114) (by decide +kernel))) rfl
theorem kw92 : Cond.fieldLink RX12 60 "OnTiptoeModel" "text" "[I" ∈ WS := WS_of (tm5 _ (List.mem_of_getElem? (i := 115) (by decide +kernel))) rfl
theorem kw93 : Cond.fieldLink RX12 63 "OnTiptoeModel" "clauses" "[I" ∈ WS := WS_of (tm5 _ (List.mem_of_getElem? (i := 116) (by decide +kernel))) rfl
theorem kw94 : Cond.fieldLink RX12 66 "OnTiptoeModel" "word" "[I" ∈ WS := WS_of (tm5 _ (List.mem_of_getElem? (i := 117) (by decide +kernel))) rfl
theorem kw95 : Cond.fieldLink RX12 69 "OnTiptoeModel" "number" "[I" ∈ WS := WS_of (tm5 _ (List.mem_of_getElem? (i := 118) (by decide +kernel))) rfl
theorem kw96 : Cond.fieldLink RX12 72 "OnTiptoeModel" "from" "[I" ∈ WS := WS_of (tm5 _ (List.mem_of_getElem? (i := 119) (by decide +kernel))) rfl
theorem kw97 : Cond.fieldLink RX12 75 "OnTiptoeModel" "to" "[I" ∈ WS := WS_of (tm5 _ (List.mem_of_getElem? (i := 120) (by decide +kernel))) rfl
theorem kw98 : Cond.fieldLink RX12 78 "OnTiptoeModel" "sign" "[I" ∈ WS := WS_of (tm5 _ (List.mem_of_getElem? (i := 121) (by decide +kernel))) rfl
theorem kw99 : Cond.fieldLink RX12 81 "OnTiptoeModel" "waits" "[I" ∈ WS := WS_of (tm5 _ (List.mem_of_getElem? (i := 122) (by decide +kernel))) rfl
theorem kw100 : Cond.fieldLink RX12 84 "OnTiptoeModel" "signs" "I" ∈ WS := WS_of (tm5 _ (List.mem_of_getElem? (i := 123) (by decide +kernel))) rfl
theorem kw101 : Cond.fieldLink RX12 87 "OnTiptoeModel" "waiting" "I" ∈ WS := WS_of (tm5 _ (List.mem_of_getElem? (i := 124) (by decide +kernel))) rfl
theorem kw102 : Cond.fieldLink RX12 90 "OnTiptoeModel" "open" "I" ∈ WS := WS_of (tm5 _ (List.mem_of_getElem? (i := 125) (by decide +kernel))) rfl
theorem kw103 : Cond.fieldLink RX12 93 "OnTiptoeModel" "letters" "[I" ∈ WS := WS_of (tm5 _ (List.mem_of_getElem? (i := 126) (by decide +kernel))) rfl
theorem kw104 : Cond.arrayClass .boolean ∈ WS := WS_of (tm6 _ (List.mem_of_getElem? (i := 82) (by decide +kernel))) rfl
theorem kw105 : Cond.fieldLink RX12 96 "OnTiptoeModel" "pile" "[Z" ∈ WS := WS_of (tm5 _ (List.mem_of_getElem? (i := 127) (by decide +kernel))) rfl
theorem kw106 : Cond.fieldLink RX12 100 "OnTiptoeModel" "deeper" "I" ∈ WS := WS_of (tm5 _ (List.mem_of_getElem? (i := 128) (by decide +kernel))) rfl
theorem kw107 : Cond.fieldLink RX12 103 "OnTiptoeModel" "ways" "I" ∈ WS := WS_of (tm5 _ (List.mem_of_getElem? (i := 129) (by decide +kernel))) rfl
theorem kw108 : Cond.fieldLink RX12 106 "OnTiptoeModel" "way" "[I" ∈ WS := WS_of (tm5 _ (List.mem_of_getElem? (i := 130) (by decide +kernel))) rfl
theorem kw109 : Cond.fieldLink RX12 109 "OnTiptoeModel" "goneTo" "I" ∈ WS := WS_of (tm5 _ (List.mem_of_getElem? (i := 131) (by decide +kernel))) rfl
theorem kw110 : Cond.fieldLink RX12 112 "OnTiptoeModel" "goneMinute" "I" ∈ WS := WS_of (tm5 _ (List.mem_of_getElem? (i := 132) (by decide +kernel))) rfl
theorem kw111 : Cond.fieldLink RX12 115 "OnTiptoeModel" "goneStirs" "I" ∈ WS := WS_of (tm5 _ (List.mem_of_getElem? (i := 133) (by decide +kernel))) rfl
theorem kw112 : Cond.fieldLink RX12 118 "OnTiptoeModel" "can" "[I" ∈ WS := WS_of (tm5 _ (List.mem_of_getElem? (i := 134) (by decide +kernel))) rfl
theorem kw113 : Cond.fieldLink RX12 121 "OnTiptoeModel" "trail" "[I" ∈ WS := WS_of (tm5 _ (List.mem_of_getElem? (i := 135) (by decide +kernel))) rfl
theorem kw114 : Cond.fieldLink RX12 124 "OnTiptoeModel" "triedTo" "[I" ∈ WS := WS_of (tm5 _ (List.mem_of_getElem? (i := 136) (by decide +kernel))) rfl
theorem kw115 : Cond.fieldLink RX12 127 "OnTiptoeModel" "sums" "[I" ∈ WS := WS_of (tm5 _ (List.mem_of_getElem? (i := 137) (by decide +kernel))) rfl
theorem kw116 : Cond.fieldLink RX12 130 "OnTiptoeModel" "quietSum" "I" ∈ WS := WS_of (tm5 _ (List.mem_of_getElem? (i := 138) (by decide +kernel))) rfl
theorem kw117 : Cond.fieldLink RX12 133 "OnTiptoeModel" "quietSteps" "I" ∈ WS := WS_of (tm5 _ (List.mem_of_getElem? (i := 139) (by decide +kernel))) rfl
theorem kw118 : Cond.fieldLink RX12 136 "OnTiptoeModel" "seen" "I" ∈ WS := WS_of (tm5 _ (List.mem_of_getElem? (i := 140) (by decide +kernel))) rfl
theorem kw119 : Cond.fieldLink RX12 139 "OnTiptoeModel" "seenBoard" "[I" ∈ WS := WS_of (tm5 _ (List.mem_of_getElem? (i := 141) (by decide +kernel))) rfl
theorem kw120 : Cond.fieldLink RX12 142 "OnTiptoeModel" "seenWhen" "[I" ∈ WS := WS_of (tm5 _ (List.mem_of_getElem? (i := 142) (by decide +kernel))) rfl
theorem kw121 : Cond.fieldLink RX12 145 "OnTiptoeModel" "seenWoke" "[Z" ∈ WS := WS_of (tm5 _ (List.mem_of_getElem? (i := 143) (by decide +kernel))) rfl
theorem kw122 : Cond.fieldLink RX12 148 "OnTiptoeModel" "books" "I" ∈ WS := WS_of (tm5 _ (List.mem_of_getElem? (i := 144) (by decide +kernel))) rfl
theorem kw123 : Cond.fieldLink RX12 151 "OnTiptoeModel" "book" "[I" ∈ WS := WS_of (tm5 _ (List.mem_of_getElem? (i := 145) (by decide +kernel))) rfl
theorem kw124 : Cond.fieldLink RX12 154 "OnTiptoeModel" "hasImage" "Z" ∈ WS := WS_of (tm5 _ (List.mem_of_getElem? (i := 146) (by decide +kernel))) rfl
theorem kw125 : Cond.fieldLink RX12 157 "OnTiptoeModel" "imageAwake" "Z" ∈ WS := WS_of (tm5 _ (List.mem_of_getElem? (i := 147) (by decide +kernel))) rfl
theorem kw126 : Cond.fieldLink RX12 160 "OnTiptoeModel" "imageThe" "I" ∈ WS := WS_of (tm5 _ (List.mem_of_getElem? (i := 148) (by decide +kernel))) rfl
theorem kw127 : Cond.fieldLink RX12 163 "OnTiptoeModel" "imageWalkers" "I" ∈ WS := WS_of (tm5 _ (List.mem_of_getElem? (i := 149) (by decide +kernel))) rfl
theorem kw128 : Cond.fieldLink RX12 166 "OnTiptoeModel" "imageMinute" "I" ∈ WS := WS_of (tm5 _ (List.mem_of_getElem? (i := 150) (by decide +kernel))) rfl
theorem kw129 : Cond.fieldLink RX12 169 "OnTiptoeModel" "imageStirs" "I" ∈ WS := WS_of (tm5 _ (List.mem_of_getElem? (i := 151) (by decide +kernel))) rfl
theorem kw130 : Cond.fieldLink RX12 172 "OnTiptoeModel" "imageToys" "I" ∈ WS := WS_of (tm5 _ (List.mem_of_getElem? (i := 152) (by decide +kernel))) rfl
theorem kw131 : Cond.fieldLink RX12 175 "OnTiptoeModel" "imageDoor" "I" ∈ WS := WS_of (tm5 _ (List.mem_of_getElem? (i := 153) (by decide +kernel))) rfl
theorem kw132 : Cond.fieldLink RX12 178 "OnTiptoeModel" "imageWays" "I" ∈ WS := WS_of (tm5 _ (List.mem_of_getElem? (i := 154) (by decide +kernel))) rfl
theorem kw133 : Cond.fieldLink RX12 181 "OnTiptoeModel" "imageSeen" "I" ∈ WS := WS_of (tm5 _ (List.mem_of_getElem? (i := 155) (by decide +kernel))) rfl
theorem kw134 : Cond.fieldLink RX12 184 "OnTiptoeModel" "imageBooks" "I" ∈ WS := WS_of (tm5 _ (List.mem_of_getElem? (i := 156) (by decide +kernel))) rfl
theorem kw135 : Cond.fieldLink RX12 187 "OnTiptoeModel" "imageCreaks" "[I" ∈ WS := WS_of (tm5 _ (List.mem_of_getElem? (i := 157) (by decide +kernel))) rfl
theorem kw136 : Cond.fieldLink RX12 190 "OnTiptoeModel" "imageKind" "[I" ∈ WS := WS_of (tm5 _ (List.mem_of_getElem? (i := 158) (by decide +kernel))) rfl
theorem kw137 : Cond.fieldLink RX12 193 "OnTiptoeModel" "imageV" "[I" ∈ WS := WS_of (tm5 _ (List.mem_of_getElem? (i := 159) (by decide +kernel))) rfl
theorem kw138 : Cond.fieldLink RX12 196 "OnTiptoeModel" "imageIs" "[I" ∈ WS := WS_of (tm5 _ (List.mem_of_getElem? (i := 160) (by decide +kernel))) rfl
theorem kw139 : Cond.fieldLink RX12 199 "OnTiptoeModel" "imageRows" "[I" ∈ WS := WS_of (tm5 _ (List.mem_of_getElem? (i := 161) (by decide +kernel))) rfl
theorem kw140 : Cond.fieldLink RX12 202 "OnTiptoeModel" "imageWay" "[I" ∈ WS := WS_of (tm5 _ (List.mem_of_getElem? (i := 162) (by decide +kernel))) rfl
theorem kw141 : Cond.fieldLink RX12 205 "OnTiptoeModel" "imageBoard" "[I" ∈ WS := WS_of (tm5 _ (List.mem_of_getElem? (i := 163) (by decide +kernel))) rfl
theorem kw142 : Cond.fieldLink RX12 208 "OnTiptoeModel" "imageWhen" "[I" ∈ WS := WS_of (tm5 _ (List.mem_of_getElem? (i := 164) (by decide +kernel))) rfl
theorem kw143 : Cond.fieldLink RX12 211 "OnTiptoeModel" "imageBook" "[I" ∈ WS := WS_of (tm5 _ (List.mem_of_getElem? (i := 165) (by decide +kernel))) rfl
theorem kw144 : Cond.fieldLink RX12 214 "OnTiptoeModel" "imageWoke" "[Z" ∈ WS := WS_of (tm5 _ (List.mem_of_getElem? (i := 166) (by decide +kernel))) rfl
theorem kw145 : Cond.fieldLink RX12 217 "OnTiptoeModel" "ran" "I" ∈ WS := WS_of (tm5 _ (List.mem_of_getElem? (i := 167) (by decide +kernel))) rfl
theorem kw146 : Cond.fieldLink RX12 220 "OnTiptoeModel" "bodies" "[I" ∈ WS := WS_of (tm5 _ (List.mem_of_getElem? (i := 168) (by decide +kernel))) rfl
theorem kw147 : Cond.fieldLink RX12 223 "OnTiptoeModel" "sort" "[I" ∈ WS := WS_of (tm5 _ (List.mem_of_getElem? (i := 169) (by decide +kernel))) rfl
theorem kw148 : Cond.fieldLink RX12 226 "OnTiptoeModel" "length" "[I" ∈ WS := WS_of (tm5 _ (List.mem_of_getElem? (i := 170) (by decide +kernel))) rfl
theorem kw149 : Cond.fieldLink RX12 229 "OnTiptoeModel" "item" "[J" ∈ WS := WS_of (tm5 _ (List.mem_of_getElem? (i := 171) (by decide +kernel))) rfl
theorem kw150 : Cond.fieldLink RX12 233 "OnTiptoeModel" "aside" "[J" ∈ WS := WS_of (tm5 _ (List.mem_of_getElem? (i := 172) (by decide +kernel))) rfl
theorem kw151 : Cond.methodLink RL 13 yX11_creak ∈ WS := WS_of (tm2 _ (List.mem_of_getElem? (i := 2) (by decide +kernel))) rfl
theorem kw152 : Cond.instanceMethod yX11_creak ∈ WS := WS_of (tm2 _ (List.mem_of_getElem? (i := 3) (by decide +kernel))) rfl
theorem kw153 : Cond.selects RX11 yX11_creak yX11_creak ∈ WS := WS_of (tm2 _ (List.mem_of_getElem? (i := 4) (by decide +kernel))) rfl
theorem kw154 : Cond.code yX11_creak cX11_creak 4 (some .int) ∈ WS := WS_of (tm2 _ (List.mem_of_getElem? (i := 5) rfl)) rfl
theorem kw155 : Cond.fieldLink RX11 68 "OnTiptoe$House" "creak" "[I" ∈ WS := WS_of (tm1 _ (List.mem_of_getElem? (i := 36) (by decide +kernel))) rfl
theorem kw156 : Cond.methodLink RX11 64 yX11_isBoard ∈ WS := WS_of (tm2 _ (List.mem_of_getElem? (i := 6) (by decide +kernel))) rfl
theorem kw157 : Cond.static yX11_isBoard ∈ WS := WS_of (tm2 _ (List.mem_of_getElem? (i := 7) (by decide +kernel))) rfl
theorem kw158 : Cond.code yX11_isBoard cX11_isBoard 1 (some .boolean) ∈ WS := WS_of (tm2 _ (List.mem_of_getElem? (i := 8) rfl)) rfl
theorem kw159 : Cond.methodLink RL 17 yX12_creak ∈ WS := WS_of (tm6 _ (List.mem_of_getElem? (i := 83) (by decide +kernel))) rfl
theorem kw160 : Cond.instanceMethod yX12_creak ∈ WS := WS_of (tm6 _ (List.mem_of_getElem? (i := 84) (by decide +kernel))) rfl
theorem kw161 : Cond.selects RX12 yX12_creak yX12_creak ∈ WS := WS_of (tm6 _ (List.mem_of_getElem? (i := 85) (by decide +kernel))) rfl
theorem kw162 : Cond.code yX12_creak cX12_creak 4 (some .int) ∈ WS := WS_of (tm6 _ (List.mem_of_getElem? (i := 86) rfl)) rfl
theorem kw163 : Cond.methodLink RX12 244 yX12_isBoard ∈ WS := WS_of (tm6 _ (List.mem_of_getElem? (i := 87) (by decide +kernel))) rfl
theorem kw164 : Cond.instanceMethod yX12_isBoard ∈ WS := WS_of (tm6 _ (List.mem_of_getElem? (i := 89) (by decide +kernel))) rfl
theorem kw165 : Cond.selects RX12 yX12_isBoard yX12_isBoard ∈ WS := WS_of (tm0 _ (List.mem_of_getElem? (i := 24) (by decide +kernel))) rfl
theorem kw166 : Cond.code yX12_isBoard cX12_isBoard 2 (some .boolean) ∈ WS := WS_of (tm6 _ (List.mem_of_getElem? (i := 90) rfl)) rfl
theorem kw167 : Cond.methodLink RX12 236 yX12_in ∈ WS := WS_of (tm6 _ (List.mem_of_getElem? (i := 91) (by decide +kernel))) rfl
theorem kw168 : Cond.instanceMethod yX12_in ∈ WS := WS_of (tm6 _ (List.mem_of_getElem? (i := 93) (by decide +kernel))) rfl
theorem kw169 : Cond.selects RX12 yX12_in yX12_in ∈ WS := WS_of (tm0 _ (List.mem_of_getElem? (i := 25) (by decide +kernel))) rfl
theorem kw170 : Cond.code yX12_in cX12_in 4 (some .boolean) ∈ WS := WS_of (tm6 _ (List.mem_of_getElem? (i := 94) rfl)) rfl
theorem kw171 : Cond.methodLink RL 18 yX11_toy ∈ WS := WS_of (tm2 _ (List.mem_of_getElem? (i := 9) (by decide +kernel))) rfl
theorem kw172 : Cond.instanceMethod yX11_toy ∈ WS := WS_of (tm2 _ (List.mem_of_getElem? (i := 10) (by decide +kernel))) rfl
theorem kw173 : Cond.selects RX11 yX11_toy yX11_toy ∈ WS := WS_of (tm2 _ (List.mem_of_getElem? (i := 11) (by decide +kernel))) rfl
theorem kw174 : Cond.code yX11_toy cX11_toy 5 (some .int) ∈ WS := WS_of (tm2 _ (List.mem_of_getElem? (i := 12) rfl)) rfl
theorem kw175 : Cond.fieldLink RX11 75 "OnTiptoe$House" "toys" "I" ∈ WS := WS_of (tm1 _ (List.mem_of_getElem? (i := 39) (by decide +kernel))) rfl
theorem kw176 : Cond.methodLink RX11 71 yX2_toyOn ∈ WS := WS_of (tm2 _ (List.mem_of_getElem? (i := 13) (by decide +kernel))) rfl
theorem kw177 : Cond.instanceMethod yX2_toyOn ∈ WS := WS_of (tm2 _ (List.mem_of_getElem? (i := 14) (by decide +kernel))) rfl
theorem kw178 : Cond.selects RX2 yX2_toyOn yX2_toyOn ∈ WS := WS_of (tm2 _ (List.mem_of_getElem? (i := 15) (by decide +kernel))) rfl
theorem kw179 : Cond.code yX2_toyOn cX2_toyOn 2 (some .int) ∈ WS := WS_of (tm2 _ (List.mem_of_getElem? (i := 16) rfl)) rfl
theorem kw180 : Cond.fieldLink RX2 43 "OnTiptoe$House" "toys" "I" ∈ WS := WS_of (tm1 _ (List.mem_of_getElem? (i := 38) (by decide +kernel))) rfl
theorem kw181 : Cond.methodLink RL 22 yX12_toy ∈ WS := WS_of (tm6 _ (List.mem_of_getElem? (i := 95) (by decide +kernel))) rfl
theorem kw182 : Cond.instanceMethod yX12_toy ∈ WS := WS_of (tm6 _ (List.mem_of_getElem? (i := 96) (by decide +kernel))) rfl
theorem kw183 : Cond.selects RX12 yX12_toy yX12_toy ∈ WS := WS_of (tm6 _ (List.mem_of_getElem? (i := 97) (by decide +kernel))) rfl
theorem kw184 : Cond.code yX12_toy cX12_toy 4 (some .int) ∈ WS := WS_of (tm6 _ (List.mem_of_getElem? (i := 98) rfl)) rfl
theorem kw185 : Cond.methodLink RL 23 yX11_door ∈ WS := WS_of (tm2 _ (List.mem_of_getElem? (i := 17) (by decide +kernel))) rfl
theorem kw186 : Cond.instanceMethod yX11_door ∈ WS := WS_of (tm2 _ (List.mem_of_getElem? (i := 18) (by decide +kernel))) rfl
theorem kw187 : Cond.selects RX11 yX11_door yX11_door ∈ WS := WS_of (tm2 _ (List.mem_of_getElem? (i := 19) (by decide +kernel))) rfl
theorem kw188 : Cond.code yX11_door cX11_door 3 (some .int) ∈ WS := WS_of (tm2 _ (List.mem_of_getElem? (i := 20) rfl)) rfl
theorem kw189 : Cond.fieldLink RX11 79 "OnTiptoe$House" "door" "I" ∈ WS := WS_of (tm1 _ (List.mem_of_getElem? (i := 42) (by decide +kernel))) rfl
theorem kw190 : Cond.methodLink RL 27 yX12_door ∈ WS := WS_of (tm6 _ (List.mem_of_getElem? (i := 99) (by decide +kernel))) rfl
theorem kw191 : Cond.instanceMethod yX12_door ∈ WS := WS_of (tm6 _ (List.mem_of_getElem? (i := 100) (by decide +kernel))) rfl
theorem kw192 : Cond.selects RX12 yX12_door yX12_door ∈ WS := WS_of (tm6 _ (List.mem_of_getElem? (i := 101) (by decide +kernel))) rfl
theorem kw193 : Cond.code yX12_door cX12_door 3 (some .int) ∈ WS := WS_of (tm6 _ (List.mem_of_getElem? (i := 102) rfl)) rfl
theorem kw194 : Cond.methodLink RL 28 yX11_walker ∈ WS := WS_of (tm2 _ (List.mem_of_getElem? (i := 21) (by decide +kernel))) rfl
theorem kw195 : Cond.instanceMethod yX11_walker ∈ WS := WS_of (tm2 _ (List.mem_of_getElem? (i := 22) (by decide +kernel))) rfl
theorem kw196 : Cond.selects RX11 yX11_walker yX11_walker ∈ WS := WS_of (tm2 _ (List.mem_of_getElem? (i := 23) (by decide +kernel))) rfl
theorem kw197 : Cond.code yX11_walker cX11_walker 5 (some .int) ∈ WS := WS_of (tm2 _ (List.mem_of_getElem? (i := 24) rfl)) rfl
theorem kw198 : Cond.fieldLink RX11 82 "OnTiptoe$House" "walkerCount" "I" ∈ WS := WS_of (tm1 _ (List.mem_of_getElem? (i := 44) (by decide +kernel))) rfl
theorem kw199 : Cond.methodLink RX11 85 yX11_newWalker ∈ WS := WS_of (tm2 _ (List.mem_of_getElem? (i := 25) (by decide +kernel))) rfl
theorem kw200 : Cond.static yX11_newWalker ∈ WS := WS_of (tm2 _ (List.mem_of_getElem? (i := 26) (by decide +kernel))) rfl
theorem kw201 : Cond.code yX11_newWalker cX11_newWalker 4 (some (.object "OnTiptoe$Walker")) ∈ WS := WS_of (tm2 _ (List.mem_of_getElem? (i := 27) rfl)) rfl
theorem kw202 : Cond.classLink RX11 288 RX1 ∈ WS := WS_of (tm2 _ (List.mem_of_getElem? (i := 28) (by decide +kernel))) rfl
theorem kw203 : Cond.instantiable RX1 6 ∈ WS := WS_of (tm2 _ (List.mem_of_getElem? (i := 29) (by decide +kernel))) rfl
theorem kw204 : Cond.initialized RX1 ∈ WS := WS_of (tm1 _ (List.mem_of_getElem? (i := 8) (by decide +kernel))) rfl
theorem kw205 : Cond.classLink RX11 293 RX6 ∈ WS := WS_of (tm2 _ (List.mem_of_getElem? (i := 68) (by decide +kernel))) rfl
theorem kw206 : Cond.instantiable RX6 6 ∈ WS := WS_of (tm2 _ (List.mem_of_getElem? (i := 69) (by decide +kernel))) rfl
theorem kw207 : Cond.initialized RX6 ∈ WS := WS_of (tm1 _ (List.mem_of_getElem? (i := 9) (by decide +kernel))) rfl
theorem kw208 : Cond.classLink RX11 296 RX5 ∈ WS := WS_of (tm2 _ (List.mem_of_getElem? (i := 81) (by decide +kernel))) rfl
theorem kw209 : Cond.instantiable RX5 6 ∈ WS := WS_of (tm2 _ (List.mem_of_getElem? (i := 82) (by decide +kernel))) rfl
theorem kw210 : Cond.initialized RX5 ∈ WS := WS_of (tm1 _ (List.mem_of_getElem? (i := 10) (by decide +kernel))) rfl
theorem kw211 : Cond.classLink RX11 299 RX7 ∈ WS := WS_of (tm2 _ (List.mem_of_getElem? (i := 94) (by decide +kernel))) rfl
theorem kw212 : Cond.instantiable RX7 6 ∈ WS := WS_of (tm2 _ (List.mem_of_getElem? (i := 95) (by decide +kernel))) rfl
theorem kw213 : Cond.initialized RX7 ∈ WS := WS_of (tm1 _ (List.mem_of_getElem? (i := 11) (by decide +kernel))) rfl
theorem kw214 : Cond.classLink RX11 302 RX0 ∈ WS := WS_of (tm2 _ (List.mem_of_getElem? (i := 107) (by decide +kernel))) rfl
theorem kw215 : Cond.instantiable RX0 6 ∈ WS := WS_of (tm2 _ (List.mem_of_getElem? (i := 108) (by decide +kernel))) rfl
theorem kw216 : Cond.initialized RX0 ∈ WS := WS_of (tm1 _ (List.mem_of_getElem? (i := 12) (by decide +kernel))) rfl
theorem kw217 : Cond.classLink RX11 110 RX8 ∈ WS := WS_of (tm2 _ (List.mem_of_getElem? (i := 120) (by decide +kernel))) rfl
theorem kw218 : Cond.instantiable RX8 8 ∈ WS := WS_of (tm2 _ (List.mem_of_getElem? (i := 121) (by decide +kernel))) rfl
theorem kw219 : Cond.initialized RX8 ∈ WS := WS_of (tm1 _ (List.mem_of_getElem? (i := 13) (by decide +kernel))) rfl
theorem kw220 : Cond.instantiable RX9 6 ∈ WS := WS_of (tm2 _ (List.mem_of_getElem? (i := 140) (by decide +kernel))) rfl
theorem kw221 : Cond.initialized RX9 ∈ WS := WS_of (tm1 _ (List.mem_of_getElem? (i := 7) (by decide +kernel))) rfl
theorem kw222 : Cond.methodLink RX11 290 yX1_init ∈ WS := WS_of (tm2 _ (List.mem_of_getElem? (i := 30) (by decide +kernel))) rfl
theorem kw223 : Cond.instanceMethod yX1_init ∈ WS := WS_of (tm2 _ (List.mem_of_getElem? (i := 31) (by decide +kernel))) rfl
theorem kw224 : Cond.code yX1_init cX1_init 4 none ∈ WS := WS_of (tm2 _ (List.mem_of_getElem? (i := 32) rfl)) rfl
theorem kw225 : Cond.methodLink RX1 1 yX9_init ∈ WS := WS_of (tm2 _ (List.mem_of_getElem? (i := 33) (by decide +kernel))) rfl
theorem kw226 : Cond.instanceMethod yX9_init ∈ WS := WS_of (tm2 _ (List.mem_of_getElem? (i := 34) (by decide +kernel))) rfl
theorem kw227 : Cond.code yX9_init cX9_init 4 none ∈ WS := WS_of (tm2 _ (List.mem_of_getElem? (i := 35) rfl)) rfl
theorem kw228 : Cond.methodLink RX9 3 objectInit ∈ WS := WS_of (tm2 _ (List.mem_of_getElem? (i := 36) (by decide +kernel))) rfl
theorem kw229 : Cond.fieldLink RX9 9 "OnTiptoe$Walker" "ran" "[I" ∈ WS := WS_of (tm2 _ (List.mem_of_getElem? (i := 51) (by decide +kernel))) rfl
theorem kw230 : Cond.fieldLink RX9 15 "OnTiptoe$Walker" "number" "I" ∈ WS := WS_of (tm2 _ (List.mem_of_getElem? (i := 37) (by decide +kernel))) rfl
theorem kw231 : Cond.fieldLink RX9 19 "OnTiptoe$Walker" "v" "I" ∈ WS := WS_of (tm2 _ (List.mem_of_getElem? (i := 40) (by decide +kernel))) rfl
theorem kw232 : Cond.fieldLink RX9 22 "OnTiptoe$Walker" "board" "I" ∈ WS := WS_of (tm2 _ (List.mem_of_getElem? (i := 48) (by decide +kernel))) rfl
theorem kw233 : Cond.methodLink RX11 295 yX6_init ∈ WS := WS_of (tm2 _ (List.mem_of_getElem? (i := 70) (by decide +kernel))) rfl
theorem kw234 : Cond.instanceMethod yX6_init ∈ WS := WS_of (tm2 _ (List.mem_of_getElem? (i := 71) (by decide +kernel))) rfl
theorem kw235 : Cond.code yX6_init cX6_init 4 none ∈ WS := WS_of (tm2 _ (List.mem_of_getElem? (i := 72) rfl)) rfl
theorem kw236 : Cond.methodLink RX6 1 yX9_init ∈ WS := WS_of (tm2 _ (List.mem_of_getElem? (i := 73) (by decide +kernel))) rfl
theorem kw237 : Cond.methodLink RX11 298 yX5_init ∈ WS := WS_of (tm2 _ (List.mem_of_getElem? (i := 83) (by decide +kernel))) rfl
theorem kw238 : Cond.instanceMethod yX5_init ∈ WS := WS_of (tm2 _ (List.mem_of_getElem? (i := 84) (by decide +kernel))) rfl
theorem kw239 : Cond.code yX5_init cX5_init 4 none ∈ WS := WS_of (tm2 _ (List.mem_of_getElem? (i := 85) rfl)) rfl
theorem kw240 : Cond.methodLink RX5 1 yX9_init ∈ WS := WS_of (tm2 _ (List.mem_of_getElem? (i := 86) (by decide +kernel))) rfl
theorem kw241 : Cond.methodLink RX11 301 yX7_init ∈ WS := WS_of (tm2 _ (List.mem_of_getElem? (i := 96) (by decide +kernel))) rfl
theorem kw242 : Cond.instanceMethod yX7_init ∈ WS := WS_of (tm2 _ (List.mem_of_getElem? (i := 97) (by decide +kernel))) rfl
theorem kw243 : Cond.code yX7_init cX7_init 4 none ∈ WS := WS_of (tm2 _ (List.mem_of_getElem? (i := 98) rfl)) rfl
theorem kw244 : Cond.methodLink RX7 1 yX1_init ∈ WS := WS_of (tm2 _ (List.mem_of_getElem? (i := 99) (by decide +kernel))) rfl
theorem kw245 : Cond.methodLink RX11 304 yX0_init ∈ WS := WS_of (tm2 _ (List.mem_of_getElem? (i := 109) (by decide +kernel))) rfl
theorem kw246 : Cond.instanceMethod yX0_init ∈ WS := WS_of (tm2 _ (List.mem_of_getElem? (i := 110) (by decide +kernel))) rfl
theorem kw247 : Cond.code yX0_init cX0_init 4 none ∈ WS := WS_of (tm2 _ (List.mem_of_getElem? (i := 111) rfl)) rfl
theorem kw248 : Cond.methodLink RX0 1 yX6_init ∈ WS := WS_of (tm2 _ (List.mem_of_getElem? (i := 112) (by decide +kernel))) rfl
theorem kw249 : Cond.methodLink RX11 305 yX8_init ∈ WS := WS_of (tm2 _ (List.mem_of_getElem? (i := 122) (by decide +kernel))) rfl
theorem kw250 : Cond.instanceMethod yX8_init ∈ WS := WS_of (tm2 _ (List.mem_of_getElem? (i := 123) (by decide +kernel))) rfl
theorem kw251 : Cond.code yX8_init cX8_init 4 none ∈ WS := WS_of (tm2 _ (List.mem_of_getElem? (i := 124) rfl)) rfl
theorem kw252 : Cond.fieldLink RX8 9 "OnTiptoe$Told" "row" "[I" ∈ WS := WS_of (tm2 _ (List.mem_of_getElem? (i := 126) (by decide +kernel))) rfl
theorem kw253 : Cond.fieldLink RX8 13 "OnTiptoe$Told" "keptRow" "[I" ∈ WS := WS_of (tm2 _ (List.mem_of_getElem? (i := 128) (by decide +kernel))) rfl
theorem kw254 : Cond.methodLink RX8 1 yX5_init ∈ WS := WS_of (tm2 _ (List.mem_of_getElem? (i := 125) (by decide +kernel))) rfl
theorem kw255 : Cond.methodLink RX11 306 yX9_init ∈ WS := WS_of (tm2 _ (List.mem_of_getElem? (i := 141) (by decide +kernel))) rfl
theorem kw256 : Cond.methodLink RL 32 yX12_walker ∈ WS := WS_of (tm6 _ (List.mem_of_getElem? (i := 103) (by decide +kernel))) rfl
theorem kw257 : Cond.instanceMethod yX12_walker ∈ WS := WS_of (tm6 _ (List.mem_of_getElem? (i := 104) (by decide +kernel))) rfl
theorem kw258 : Cond.selects RX12 yX12_walker yX12_walker ∈ WS := WS_of (tm6 _ (List.mem_of_getElem? (i := 105) (by decide +kernel))) rfl
theorem kw259 : Cond.code yX12_walker cX12_walker 5 (some .int) ∈ WS := WS_of (tm6 _ (List.mem_of_getElem? (i := 106) rfl)) rfl
theorem kw260 : Cond.methodLink RL 33 yX11_of ∈ WS := WS_of (tm2 _ (List.mem_of_getElem? (i := 149) (by decide +kernel))) rfl
theorem kw261 : Cond.instanceMethod yX11_of ∈ WS := WS_of (tm2 _ (List.mem_of_getElem? (i := 150) (by decide +kernel))) rfl
theorem kw262 : Cond.selects RX11 yX11_of yX11_of ∈ WS := WS_of (tm2 _ (List.mem_of_getElem? (i := 151) (by decide +kernel))) rfl
theorem kw263 : Cond.code yX11_of cX11_of 4 (some .int) ∈ WS := WS_of (tm2 _ (List.mem_of_getElem? (i := 152) rfl)) rfl
theorem kw264 : Cond.fieldLink RX11 97 "OnTiptoe$Walker" "v" "I" ∈ WS := WS_of (tm2 _ (List.mem_of_getElem? (i := 45) (by decide +kernel))) rfl
theorem kw265 : Cond.fieldLink RX11 100 "OnTiptoe$Walker" "board" "I" ∈ WS := WS_of (tm2 _ (List.mem_of_getElem? (i := 49) (by decide +kernel))) rfl
theorem kw266 : Cond.fieldLink RX11 103 "OnTiptoe$House" "minute" "I" ∈ WS := WS_of (tm1 _ (List.mem_of_getElem? (i := 46) (by decide +kernel))) rfl
theorem kw267 : Cond.methodLink RX11 89 yX11_find ∈ WS := WS_of (tm2 _ (List.mem_of_getElem? (i := 153) (by decide +kernel))) rfl
theorem kw268 : Cond.instanceMethod yX11_find ∈ WS := WS_of (tm2 _ (List.mem_of_getElem? (i := 155) (by decide +kernel))) rfl
theorem kw269 : Cond.selects RX11 yX11_find yX11_find ∈ WS := WS_of (tm0 _ (List.mem_of_getElem? (i := 0) (by decide +kernel))) rfl
theorem kw270 : Cond.code yX11_find cX11_find 2 (some (.object "OnTiptoe$Walker")) ∈ WS := WS_of (tm2 _ (List.mem_of_getElem? (i := 156) rfl)) rfl
theorem kw271 : Cond.methodLink RX11 93 ⟨"OnTiptoe$Walker", "kind", "()I"⟩ ∈ WS := WS_of (tm2 _ (List.mem_of_getElem? (i := 157) (by decide +kernel))) rfl
theorem kw272 : Cond.sameMethod "OnTiptoe$Walker" "OnTiptoe$Walker" "kind" "()I" ∈ WS := WS_of (tm2 _ (List.mem_of_getElem? (i := 160) (by decide +kernel))) rfl
theorem kw273 : Cond.instanceMethod ⟨"OnTiptoe$Walker", "kind", "()I"⟩ ∈ WS := WS_of (tm2 _ (List.mem_of_getElem? (i := 158) (by decide +kernel))) rfl
theorem kw274 : Cond.selects RX0 ⟨"OnTiptoe$Walker", "kind", "()I"⟩ yX0_kind ∈ WS := WS_of (tm2 _ (List.mem_of_getElem? (i := 161) (by decide +kernel))) rfl
theorem kw275 : Cond.instanceMethod yX0_kind ∈ WS := WS_of (tm2 _ (List.mem_of_getElem? (i := 162) (by decide +kernel))) rfl
theorem kw276 : Cond.code yX0_kind cX0_kind 1 (some .int) ∈ WS := WS_of (tm2 _ (List.mem_of_getElem? (i := 163) rfl)) rfl
theorem kw277 : Cond.code yX9_kind cX9_kind 1 (some .int) ∈ WS := WS_of (tm2 _ (List.mem_of_getElem? (i := 179) rfl)) rfl
theorem kw278 : Cond.selects RX1 ⟨"OnTiptoe$Walker", "kind", "()I"⟩ yX1_kind ∈ WS := WS_of (tm2 _ (List.mem_of_getElem? (i := 164) (by decide +kernel))) rfl
theorem kw279 : Cond.instanceMethod yX1_kind ∈ WS := WS_of (tm2 _ (List.mem_of_getElem? (i := 165) (by decide +kernel))) rfl
theorem kw280 : Cond.code yX1_kind cX1_kind 1 (some .int) ∈ WS := WS_of (tm2 _ (List.mem_of_getElem? (i := 166) rfl)) rfl
theorem kw281 : Cond.selects RX5 ⟨"OnTiptoe$Walker", "kind", "()I"⟩ yX5_kind ∈ WS := WS_of (tm2 _ (List.mem_of_getElem? (i := 167) (by decide +kernel))) rfl
theorem kw282 : Cond.instanceMethod yX5_kind ∈ WS := WS_of (tm2 _ (List.mem_of_getElem? (i := 168) (by decide +kernel))) rfl
theorem kw283 : Cond.code yX5_kind cX5_kind 1 (some .int) ∈ WS := WS_of (tm2 _ (List.mem_of_getElem? (i := 169) rfl)) rfl
theorem kw284 : Cond.selects RX6 ⟨"OnTiptoe$Walker", "kind", "()I"⟩ yX6_kind ∈ WS := WS_of (tm2 _ (List.mem_of_getElem? (i := 170) (by decide +kernel))) rfl
theorem kw285 : Cond.instanceMethod yX6_kind ∈ WS := WS_of (tm2 _ (List.mem_of_getElem? (i := 171) (by decide +kernel))) rfl
theorem kw286 : Cond.code yX6_kind cX6_kind 1 (some .int) ∈ WS := WS_of (tm2 _ (List.mem_of_getElem? (i := 172) rfl)) rfl
theorem kw287 : Cond.selects RX7 ⟨"OnTiptoe$Walker", "kind", "()I"⟩ yX7_kind ∈ WS := WS_of (tm2 _ (List.mem_of_getElem? (i := 173) (by decide +kernel))) rfl
theorem kw288 : Cond.instanceMethod yX7_kind ∈ WS := WS_of (tm2 _ (List.mem_of_getElem? (i := 174) (by decide +kernel))) rfl
theorem kw289 : Cond.code yX7_kind cX7_kind 1 (some .int) ∈ WS := WS_of (tm2 _ (List.mem_of_getElem? (i := 175) rfl)) rfl
theorem kw290 : Cond.selects RX8 ⟨"OnTiptoe$Walker", "kind", "()I"⟩ yX8_kind ∈ WS := WS_of (tm2 _ (List.mem_of_getElem? (i := 176) (by decide +kernel))) rfl
theorem kw291 : Cond.instanceMethod yX8_kind ∈ WS := WS_of (tm2 _ (List.mem_of_getElem? (i := 177) (by decide +kernel))) rfl
theorem kw292 : Cond.code yX8_kind cX8_kind 1 (some .int) ∈ WS := WS_of (tm2 _ (List.mem_of_getElem? (i := 178) rfl)) rfl
theorem kw293 : Cond.methodLink RX11 93 yX9_kind ∈ WS := WS_of (tm2 _ (List.mem_of_getElem? (i := 157) (by decide +kernel))) rfl
theorem kw294 : Cond.instanceMethod yX9_kind ∈ WS := WS_of (tm2 _ (List.mem_of_getElem? (i := 158) (by decide +kernel))) rfl
theorem kw295 : Cond.selects RX9 yX9_kind yX9_kind ∈ WS := WS_of (tm2 _ (List.mem_of_getElem? (i := 159) (by decide +kernel))) rfl
theorem kw296 : Cond.methodLink RX11 106 yX2_noise ∈ WS := WS_of (tm2 _ (List.mem_of_getElem? (i := 180) (by decide +kernel))) rfl
theorem kw297 : Cond.instanceMethod yX2_noise ∈ WS := WS_of (tm2 _ (List.mem_of_getElem? (i := 181) (by decide +kernel))) rfl
theorem kw298 : Cond.selects RX2 yX2_noise yX2_noise ∈ WS := WS_of (tm2 _ (List.mem_of_getElem? (i := 182) (by decide +kernel))) rfl
theorem kw299 : Cond.code yX2_noise cX2_noise 4 (some .int) ∈ WS := WS_of (tm2 _ (List.mem_of_getElem? (i := 183) rfl)) rfl
theorem kw300 : Cond.methodLink RX2 96 yX2_toyOn ∈ WS := WS_of (tm2 _ (List.mem_of_getElem? (i := 185) (by decide +kernel))) rfl
theorem kw301 : Cond.methodLink RX2 100 ⟨"OnTiptoe$Walker", "kind", "()I"⟩ ∈ WS := WS_of (tm2 _ (List.mem_of_getElem? (i := 186) (by decide +kernel))) rfl
theorem kw302 : Cond.methodLink RX2 100 yX9_kind ∈ WS := WS_of (tm2 _ (List.mem_of_getElem? (i := 186) (by decide +kernel))) rfl
theorem kw303 : Cond.methodLink RX2 106 yX2_loud ∈ WS := WS_of (tm2 _ (List.mem_of_getElem? (i := 187) (by decide +kernel))) rfl
theorem kw304 : Cond.instanceMethod yX2_loud ∈ WS := WS_of (tm2 _ (List.mem_of_getElem? (i := 188) (by decide +kernel))) rfl
theorem kw305 : Cond.selects RX2 yX2_loud yX2_loud ∈ WS := WS_of (tm2 _ (List.mem_of_getElem? (i := 189) (by decide +kernel))) rfl
theorem kw306 : Cond.code yX2_loud cX2_loud 7 (some .int) ∈ WS := WS_of (tm2 _ (List.mem_of_getElem? (i := 190) rfl)) rfl
theorem kw307 : Cond.fieldLink RX2 68 "OnTiptoe$House" "night" "LOnTiptoe$Night;" ∈ WS := WS_of (tm1 _ (List.mem_of_getElem? (i := 69) (by decide +kernel))) rfl
theorem kw308 : Cond.methodLink RX2 86 Lib.Math.max.name ∈ WS := WS_of (tm2 _ (List.mem_of_getElem? (i := 209) (by decide +kernel))) rfl
theorem kw309 : Cond.static Lib.Math.max.name ∈ WS := WS_of (tm2 _ (List.mem_of_getElem? (i := 204) (by decide +kernel))) rfl
theorem kw310 : Cond.initialized "java/lang/Math" ∈ WS := WS_of (tm1 _ (List.mem_of_getElem? (i := 14) (by decide +kernel))) rfl
theorem kw311 : Cond.code Lib.Math.max.name Lib.Math.max.code 2 (some .int) ∈ WS := WS_of (tm2 _ (List.mem_of_getElem? (i := 205) rfl)) rfl
theorem kw312 : Cond.methodLink RX2 78 yX2_setFacts ∈ WS := WS_of (tm2 _ (List.mem_of_getElem? (i := 191) (by decide +kernel))) rfl
theorem kw313 : Cond.instanceMethod yX2_setFacts ∈ WS := WS_of (tm2 _ (List.mem_of_getElem? (i := 193) (by decide +kernel))) rfl
theorem kw314 : Cond.selects RX2 yX2_setFacts yX2_setFacts ∈ WS := WS_of (tm0 _ (List.mem_of_getElem? (i := 1) (by decide +kernel))) rfl
theorem kw315 : Cond.code yX2_setFacts cX2_setFacts 6 none ∈ WS := WS_of (tm2 _ (List.mem_of_getElem? (i := 194) rfl)) rfl
theorem kw316 : Cond.methodLink RX2 82 yX3_together ∈ WS := WS_of (tm2 _ (List.mem_of_getElem? (i := 195) (by decide +kernel))) rfl
theorem kw317 : Cond.instanceMethod yX3_together ∈ WS := WS_of (tm2 _ (List.mem_of_getElem? (i := 196) (by decide +kernel))) rfl
theorem kw318 : Cond.selects RX3 yX3_together yX3_together ∈ WS := WS_of (tm2 _ (List.mem_of_getElem? (i := 197) (by decide +kernel))) rfl
theorem kw319 : Cond.code yX3_together cX3_together 6 (some .int) ∈ WS := WS_of (tm2 _ (List.mem_of_getElem? (i := 198) rfl)) rfl
theorem kw320 : Cond.fieldLink RX3 24 "OnTiptoe$Night" "clauses" "I" ∈ WS := WS_of (tm1 _ (List.mem_of_getElem? (i := 182) (by decide +kernel))) rfl
theorem kw321 : Cond.methodLink RX3 31 yX3_holds ∈ WS := WS_of (tm2 _ (List.mem_of_getElem? (i := 199) (by decide +kernel))) rfl
theorem kw322 : Cond.instanceMethod yX3_holds ∈ WS := WS_of (tm2 _ (List.mem_of_getElem? (i := 201) (by decide +kernel))) rfl
theorem kw323 : Cond.selects RX3 yX3_holds yX3_holds ∈ WS := WS_of (tm0 _ (List.mem_of_getElem? (i := 2) (by decide +kernel))) rfl
theorem kw324 : Cond.code yX3_holds cX3_holds 9 (some .boolean) ∈ WS := WS_of (tm2 _ (List.mem_of_getElem? (i := 202) rfl)) rfl
theorem kw325 : Cond.methodLink RX3 35 Lib.Math.max.name ∈ WS := WS_of (tm2 _ (List.mem_of_getElem? (i := 203) (by decide +kernel))) rfl
theorem kw326 : Cond.methodLink RX3 41 yX3_testHolds ∈ WS := WS_of (tm2 _ (List.mem_of_getElem? (i := 206) (by decide +kernel))) rfl
theorem kw327 : Cond.static yX3_testHolds ∈ WS := WS_of (tm2 _ (List.mem_of_getElem? (i := 207) (by decide +kernel))) rfl
theorem kw328 : Cond.code yX3_testHolds cX3_testHolds 5 (some .boolean) ∈ WS := WS_of (tm2 _ (List.mem_of_getElem? (i := 208) rfl)) rfl
theorem kw329 : Cond.methodLink RX2 110 ⟨"OnTiptoe$Walker", "noise", "(II)I"⟩ ∈ WS := WS_of (tm2 _ (List.mem_of_getElem? (i := 210) (by decide +kernel))) rfl
theorem kw330 : Cond.sameMethod "OnTiptoe$Walker" "OnTiptoe$Walker" "noise" "(II)I" ∈ WS := WS_of (tm2 _ (List.mem_of_getElem? (i := 213) (by decide +kernel))) rfl
theorem kw331 : Cond.instanceMethod ⟨"OnTiptoe$Walker", "noise", "(II)I"⟩ ∈ WS := WS_of (tm2 _ (List.mem_of_getElem? (i := 211) (by decide +kernel))) rfl
theorem kw332 : Cond.selects RX0 ⟨"OnTiptoe$Walker", "noise", "(II)I"⟩ yX0_noise ∈ WS := WS_of (tm2 _ (List.mem_of_getElem? (i := 214) (by decide +kernel))) rfl
theorem kw333 : Cond.instanceMethod yX0_noise ∈ WS := WS_of (tm2 _ (List.mem_of_getElem? (i := 215) (by decide +kernel))) rfl
theorem kw334 : Cond.code yX0_noise cX0_noise 3 (some .int) ∈ WS := WS_of (tm2 _ (List.mem_of_getElem? (i := 216) rfl)) rfl
theorem kw335 : Cond.fieldLink RX0 7 "OnTiptoe$Bare" "v" "I" ∈ WS := WS_of (tm2 _ (List.mem_of_getElem? (i := 41) (by decide +kernel))) rfl
theorem kw336 : Cond.sameField "OnTiptoe$Bare" "OnTiptoe$Walker" "v" "I" ∈ WS := WS_of (tm2 _ (List.mem_of_getElem? (i := 42) (by decide +kernel))) rfl
theorem kw337 : Cond.methodLink RX0 13 yX6_noise ∈ WS := WS_of (tm2 _ (List.mem_of_getElem? (i := 217) (by decide +kernel))) rfl
theorem kw338 : Cond.sameMethod "OnTiptoe$Soft" "OnTiptoe$Soft" "noise" "(II)I" ∈ WS := WS_of (tm7 _ (List.mem_of_getElem? (i := 209) (by decide +kernel))) rfl
theorem kw339 : Cond.superclass RX0 RX6 ∈ WS := WS_of (tm2 _ (List.mem_of_getElem? (i := 119) (by decide +kernel))) rfl
theorem kw340 : Cond.instanceMethod yX6_noise ∈ WS := WS_of (tm2 _ (List.mem_of_getElem? (i := 218) (by decide +kernel))) rfl
theorem kw341 : Cond.code yX6_noise cX6_noise 3 (some .int) ∈ WS := WS_of (tm2 _ (List.mem_of_getElem? (i := 219) rfl)) rfl
theorem kw342 : Cond.code yX9_noise cX9_noise 3 (some .int) ∈ WS := WS_of (tm2 _ (List.mem_of_getElem? (i := 239) rfl)) rfl
theorem kw343 : Cond.selects RX1 ⟨"OnTiptoe$Walker", "noise", "(II)I"⟩ yX1_noise ∈ WS := WS_of (tm2 _ (List.mem_of_getElem? (i := 220) (by decide +kernel))) rfl
theorem kw344 : Cond.instanceMethod yX1_noise ∈ WS := WS_of (tm2 _ (List.mem_of_getElem? (i := 221) (by decide +kernel))) rfl
theorem kw345 : Cond.code yX1_noise cX1_noise 3 (some .int) ∈ WS := WS_of (tm2 _ (List.mem_of_getElem? (i := 222) rfl)) rfl
theorem kw346 : Cond.fieldLink RX1 7 "OnTiptoe$Heavy" "v" "I" ∈ WS := WS_of (tm2 _ (List.mem_of_getElem? (i := 43) (by decide +kernel))) rfl
theorem kw347 : Cond.sameField "OnTiptoe$Heavy" "OnTiptoe$Walker" "v" "I" ∈ WS := WS_of (tm2 _ (List.mem_of_getElem? (i := 44) (by decide +kernel))) rfl
theorem kw348 : Cond.selects RX5 ⟨"OnTiptoe$Walker", "noise", "(II)I"⟩ yX5_noise ∈ WS := WS_of (tm2 _ (List.mem_of_getElem? (i := 223) (by decide +kernel))) rfl
theorem kw349 : Cond.instanceMethod yX5_noise ∈ WS := WS_of (tm2 _ (List.mem_of_getElem? (i := 224) (by decide +kernel))) rfl
theorem kw350 : Cond.code yX5_noise cX5_noise 3 (some .int) ∈ WS := WS_of (tm2 _ (List.mem_of_getElem? (i := 225) rfl)) rfl
theorem kw351 : Cond.methodLink RX5 7 Lib.Math.max.name ∈ WS := WS_of (tm2 _ (List.mem_of_getElem? (i := 226) (by decide +kernel))) rfl
theorem kw352 : Cond.selects RX6 ⟨"OnTiptoe$Walker", "noise", "(II)I"⟩ yX6_noise ∈ WS := WS_of (tm2 _ (List.mem_of_getElem? (i := 227) (by decide +kernel))) rfl
theorem kw353 : Cond.selects RX7 ⟨"OnTiptoe$Walker", "noise", "(II)I"⟩ yX7_noise ∈ WS := WS_of (tm2 _ (List.mem_of_getElem? (i := 228) (by decide +kernel))) rfl
theorem kw354 : Cond.instanceMethod yX7_noise ∈ WS := WS_of (tm2 _ (List.mem_of_getElem? (i := 229) (by decide +kernel))) rfl
theorem kw355 : Cond.code yX7_noise cX7_noise 3 (some .int) ∈ WS := WS_of (tm2 _ (List.mem_of_getElem? (i := 230) rfl)) rfl
theorem kw356 : Cond.methodLink RX7 7 yX1_noise ∈ WS := WS_of (tm2 _ (List.mem_of_getElem? (i := 231) (by decide +kernel))) rfl
theorem kw357 : Cond.sameMethod "OnTiptoe$Heavy" "OnTiptoe$Heavy" "noise" "(II)I" ∈ WS := WS_of (tm7 _ (List.mem_of_getElem? (i := 210) (by decide +kernel))) rfl
theorem kw358 : Cond.superclass RX7 RX1 ∈ WS := WS_of (tm2 _ (List.mem_of_getElem? (i := 106) (by decide +kernel))) rfl
theorem kw359 : Cond.selects RX8 ⟨"OnTiptoe$Walker", "noise", "(II)I"⟩ yX8_noise ∈ WS := WS_of (tm2 _ (List.mem_of_getElem? (i := 232) (by decide +kernel))) rfl
theorem kw360 : Cond.instanceMethod yX8_noise ∈ WS := WS_of (tm2 _ (List.mem_of_getElem? (i := 233) (by decide +kernel))) rfl
theorem kw361 : Cond.code yX8_noise cX8_noise 3 (some .int) ∈ WS := WS_of (tm2 _ (List.mem_of_getElem? (i := 234) rfl)) rfl
theorem kw362 : Cond.methodLink RX8 16 yX5_noise ∈ WS := WS_of (tm2 _ (List.mem_of_getElem? (i := 235) (by decide +kernel))) rfl
theorem kw363 : Cond.sameMethod "OnTiptoe$Slow" "OnTiptoe$Slow" "noise" "(II)I" ∈ WS := WS_of (tm7 _ (List.mem_of_getElem? (i := 211) (by decide +kernel))) rfl
theorem kw364 : Cond.superclass RX8 RX5 ∈ WS := WS_of (tm2 _ (List.mem_of_getElem? (i := 139) (by decide +kernel))) rfl
theorem kw365 : Cond.methodLink RX8 20 yJ9_floorMod_7cf53 ∈ WS := WS_of (tm2 _ (List.mem_of_getElem? (i := 236) (by decide +kernel))) rfl
theorem kw366 : Cond.static yJ9_floorMod_7cf53 ∈ WS := WS_of (tm2 _ (List.mem_of_getElem? (i := 237) (by decide +kernel))) rfl
theorem kw367 : Cond.initialized RJ9 ∈ WS := WS_of (tm1 _ (List.mem_of_getElem? (i := 14) (by decide +kernel))) rfl
theorem kw368 : Cond.code yJ9_floorMod_7cf53 cJ9_floorMod_7cf53 3 (some .int) ∈ WS := WS_of (tm2 _ (List.mem_of_getElem? (i := 238) rfl)) rfl
theorem kw369 : Cond.methodLink RX2 110 yX9_noise ∈ WS := WS_of (tm2 _ (List.mem_of_getElem? (i := 210) (by decide +kernel))) rfl
theorem kw370 : Cond.instanceMethod yX9_noise ∈ WS := WS_of (tm2 _ (List.mem_of_getElem? (i := 211) (by decide +kernel))) rfl
theorem kw371 : Cond.selects RX9 yX9_noise yX9_noise ∈ WS := WS_of (tm2 _ (List.mem_of_getElem? (i := 212) (by decide +kernel))) rfl
theorem kw372 : Cond.methodLink RL 36 yX12_of ∈ WS := WS_of (tm6 _ (List.mem_of_getElem? (i := 183) (by decide +kernel))) rfl
theorem kw373 : Cond.instanceMethod yX12_of ∈ WS := WS_of (tm6 _ (List.mem_of_getElem? (i := 184) (by decide +kernel))) rfl
theorem kw374 : Cond.selects RX12 yX12_of yX12_of ∈ WS := WS_of (tm6 _ (List.mem_of_getElem? (i := 185) (by decide +kernel))) rfl
theorem kw375 : Cond.code yX12_of cX12_of 3 (some .int) ∈ WS := WS_of (tm6 _ (List.mem_of_getElem? (i := 186) rfl)) rfl
theorem kw376 : Cond.methodLink RX12 248 yX12_isWalker ∈ WS := WS_of (tm6 _ (List.mem_of_getElem? (i := 111) (by decide +kernel))) rfl
theorem kw377 : Cond.instanceMethod yX12_isWalker ∈ WS := WS_of (tm6 _ (List.mem_of_getElem? (i := 113) (by decide +kernel))) rfl
theorem kw378 : Cond.selects RX12 yX12_isWalker yX12_isWalker ∈ WS := WS_of (tm0 _ (List.mem_of_getElem? (i := 26) (by decide +kernel))) rfl
theorem kw379 : Cond.code yX12_isWalker cX12_isWalker 2 (some .boolean) ∈ WS := WS_of (tm6 _ (List.mem_of_getElem? (i := 114) rfl)) rfl
theorem kw380 : Cond.methodLink RX12 328 yX12_noise ∈ WS := WS_of (tm6 _ (List.mem_of_getElem? (i := 187) (by decide +kernel))) rfl
theorem kw381 : Cond.instanceMethod yX12_noise ∈ WS := WS_of (tm6 _ (List.mem_of_getElem? (i := 189) (by decide +kernel))) rfl
theorem kw382 : Cond.selects RX12 yX12_noise yX12_noise ∈ WS := WS_of (tm0 _ (List.mem_of_getElem? (i := 41) (by decide +kernel))) rfl
theorem kw383 : Cond.code yX12_noise cX12_noise 5 (some .int) ∈ WS := WS_of (tm6 _ (List.mem_of_getElem? (i := 190) rfl)) rfl
theorem kw384 : Cond.methodLink RX12 321 yX12_loud ∈ WS := WS_of (tm6 _ (List.mem_of_getElem? (i := 191) (by decide +kernel))) rfl
theorem kw385 : Cond.instanceMethod yX12_loud ∈ WS := WS_of (tm6 _ (List.mem_of_getElem? (i := 193) (by decide +kernel))) rfl
theorem kw386 : Cond.selects RX12 yX12_loud yX12_loud ∈ WS := WS_of (tm0 _ (List.mem_of_getElem? (i := 42) (by decide +kernel))) rfl
theorem kw387 : Cond.code yX12_loud cX12_loud 5 (some .int) ∈ WS := WS_of (tm6 _ (List.mem_of_getElem? (i := 194) rfl)) rfl
theorem kw388 : Cond.methodLink RX12 318 yX12_has ∈ WS := WS_of (tm6 _ (List.mem_of_getElem? (i := 195) (by decide +kernel))) rfl
theorem kw389 : Cond.instanceMethod yX12_has ∈ WS := WS_of (tm6 _ (List.mem_of_getElem? (i := 197) (by decide +kernel))) rfl
theorem kw390 : Cond.selects RX12 yX12_has yX12_has ∈ WS := WS_of (tm0 _ (List.mem_of_getElem? (i := 43) (by decide +kernel))) rfl
theorem kw391 : Cond.code yX12_has cX12_has 3 (some .boolean) ∈ WS := WS_of (tm6 _ (List.mem_of_getElem? (i := 198) rfl)) rfl
theorem kw392 : Cond.methodLink RX12 315 yX12_sumOf ∈ WS := WS_of (tm6 _ (List.mem_of_getElem? (i := 199) (by decide +kernel))) rfl
theorem kw393 : Cond.instanceMethod yX12_sumOf ∈ WS := WS_of (tm6 _ (List.mem_of_getElem? (i := 201) (by decide +kernel))) rfl
theorem kw394 : Cond.selects RX12 yX12_sumOf yX12_sumOf ∈ WS := WS_of (tm0 _ (List.mem_of_getElem? (i := 44) (by decide +kernel))) rfl
theorem kw395 : Cond.code yX12_sumOf cX12_sumOf 7 (some .int) ∈ WS := WS_of (tm6 _ (List.mem_of_getElem? (i := 202) rfl)) rfl
theorem kw396 : Cond.methodLink RX12 302 yX12_begin ∈ WS := WS_of (tm6 _ (List.mem_of_getElem? (i := 203) (by decide +kernel))) rfl
theorem kw397 : Cond.instanceMethod yX12_begin ∈ WS := WS_of (tm6 _ (List.mem_of_getElem? (i := 205) (by decide +kernel))) rfl
theorem kw398 : Cond.selects RX12 yX12_begin yX12_begin ∈ WS := WS_of (tm0 _ (List.mem_of_getElem? (i := 45) (by decide +kernel))) rfl
theorem kw399 : Cond.code yX12_begin cX12_begin 1 (some .int) ∈ WS := WS_of (tm6 _ (List.mem_of_getElem? (i := 206) rfl)) rfl
theorem kw400 : Cond.methodLink RX12 305 yX12_behind ∈ WS := WS_of (tm6 _ (List.mem_of_getElem? (i := 207) (by decide +kernel))) rfl
theorem kw401 : Cond.instanceMethod yX12_behind ∈ WS := WS_of (tm6 _ (List.mem_of_getElem? (i := 209) (by decide +kernel))) rfl
theorem kw402 : Cond.selects RX12 yX12_behind yX12_behind ∈ WS := WS_of (tm0 _ (List.mem_of_getElem? (i := 46) (by decide +kernel))) rfl
theorem kw403 : Cond.code yX12_behind cX12_behind 1 (some .int) ∈ WS := WS_of (tm6 _ (List.mem_of_getElem? (i := 210) rfl)) rfl
theorem kw404 : Cond.methodLink RX12 308 yX12_holds ∈ WS := WS_of (tm6 _ (List.mem_of_getElem? (i := 211) (by decide +kernel))) rfl
theorem kw405 : Cond.instanceMethod yX12_holds ∈ WS := WS_of (tm6 _ (List.mem_of_getElem? (i := 213) (by decide +kernel))) rfl
theorem kw406 : Cond.selects RX12 yX12_holds yX12_holds ∈ WS := WS_of (tm0 _ (List.mem_of_getElem? (i := 47) (by decide +kernel))) rfl
theorem kw407 : Cond.code yX12_holds cX12_holds 10 (some .boolean) ∈ WS := WS_of (tm6 _ (List.mem_of_getElem? (i := 214) rfl)) rfl
theorem kw408 : Cond.methodLink RX12 298 yX12_factOf ∈ WS := WS_of (tm6 _ (List.mem_of_getElem? (i := 215) (by decide +kernel))) rfl
theorem kw409 : Cond.instanceMethod yX12_factOf ∈ WS := WS_of (tm6 _ (List.mem_of_getElem? (i := 217) (by decide +kernel))) rfl
theorem kw410 : Cond.selects RX12 yX12_factOf yX12_factOf ∈ WS := WS_of (tm0 _ (List.mem_of_getElem? (i := 48) (by decide +kernel))) rfl
theorem kw411 : Cond.code yX12_factOf cX12_factOf 5 (some .int) ∈ WS := WS_of (tm6 _ (List.mem_of_getElem? (i := 218) rfl)) rfl
theorem kw412 : Cond.methodLink RX12 325 yX12_slowly ∈ WS := WS_of (tm6 _ (List.mem_of_getElem? (i := 219) (by decide +kernel))) rfl
theorem kw413 : Cond.instanceMethod yX12_slowly ∈ WS := WS_of (tm6 _ (List.mem_of_getElem? (i := 221) (by decide +kernel))) rfl
theorem kw414 : Cond.selects RX12 yX12_slowly yX12_slowly ∈ WS := WS_of (tm0 _ (List.mem_of_getElem? (i := 49) (by decide +kernel))) rfl
theorem kw415 : Cond.code yX12_slowly cX12_slowly 2 (some .int) ∈ WS := WS_of (tm6 _ (List.mem_of_getElem? (i := 222) rfl)) rfl
theorem kw416 : Cond.methodLink RL 37 yX11_put ∈ WS := WS_of (tm3 _ (List.mem_of_getElem? (i := 0) (by decide +kernel))) rfl
theorem kw417 : Cond.instanceMethod yX11_put ∈ WS := WS_of (tm3 _ (List.mem_of_getElem? (i := 1) (by decide +kernel))) rfl
theorem kw418 : Cond.selects RX11 yX11_put yX11_put ∈ WS := WS_of (tm3 _ (List.mem_of_getElem? (i := 2) (by decide +kernel))) rfl
theorem kw419 : Cond.code yX11_put cX11_put 5 (some .int) ∈ WS := WS_of (tm3 _ (List.mem_of_getElem? (i := 3) rfl)) rfl
theorem kw420 : Cond.methodLink RL 40 yX12_put ∈ WS := WS_of (tm6 _ (List.mem_of_getElem? (i := 107) (by decide +kernel))) rfl
theorem kw421 : Cond.instanceMethod yX12_put ∈ WS := WS_of (tm6 _ (List.mem_of_getElem? (i := 108) (by decide +kernel))) rfl
theorem kw422 : Cond.selects RX12 yX12_put yX12_put ∈ WS := WS_of (tm6 _ (List.mem_of_getElem? (i := 109) (by decide +kernel))) rfl
theorem kw423 : Cond.code yX12_put cX12_put 4 (some .int) ∈ WS := WS_of (tm6 _ (List.mem_of_getElem? (i := 110) rfl)) rfl
theorem kw424 : Cond.methodLink RL 41 yX11_row ∈ WS := WS_of (tm3 _ (List.mem_of_getElem? (i := 4) (by decide +kernel))) rfl
theorem kw425 : Cond.instanceMethod yX11_row ∈ WS := WS_of (tm3 _ (List.mem_of_getElem? (i := 5) (by decide +kernel))) rfl
theorem kw426 : Cond.selects RX11 yX11_row yX11_row ∈ WS := WS_of (tm3 _ (List.mem_of_getElem? (i := 6) (by decide +kernel))) rfl
theorem kw427 : Cond.code yX11_row cX11_row 7 (some .int) ∈ WS := WS_of (tm3 _ (List.mem_of_getElem? (i := 7) rfl)) rfl
theorem kw428 : Cond.classLink RX11 110 "OnTiptoe$Told" ∈ WS := WS_of (tm2 _ (List.mem_of_getElem? (i := 120) (by decide +kernel))) rfl
theorem kw429 : Cond.fieldLink RX11 112 "OnTiptoe$Told" "row" "[I" ∈ WS := WS_of (tm2 _ (List.mem_of_getElem? (i := 127) (by decide +kernel))) rfl
theorem kw430 : Cond.methodLink RL 44 yX12_row ∈ WS := WS_of (tm6 _ (List.mem_of_getElem? (i := 115) (by decide +kernel))) rfl
theorem kw431 : Cond.instanceMethod yX12_row ∈ WS := WS_of (tm6 _ (List.mem_of_getElem? (i := 116) (by decide +kernel))) rfl
theorem kw432 : Cond.selects RX12 yX12_row yX12_row ∈ WS := WS_of (tm6 _ (List.mem_of_getElem? (i := 117) (by decide +kernel))) rfl
theorem kw433 : Cond.code yX12_row cX12_row 5 (some .int) ∈ WS := WS_of (tm6 _ (List.mem_of_getElem? (i := 118) rfl)) rfl
theorem kw434 : Cond.methodLink RL 45 yX11_feed ∈ WS := WS_of (tm3 _ (List.mem_of_getElem? (i := 8) (by decide +kernel))) rfl
theorem kw435 : Cond.instanceMethod yX11_feed ∈ WS := WS_of (tm3 _ (List.mem_of_getElem? (i := 9) (by decide +kernel))) rfl
theorem kw436 : Cond.selects RX11 yX11_feed yX11_feed ∈ WS := WS_of (tm3 _ (List.mem_of_getElem? (i := 10) (by decide +kernel))) rfl
theorem kw437 : Cond.code yX11_feed cX11_feed 2 (some .int) ∈ WS := WS_of (tm3 _ (List.mem_of_getElem? (i := 11) rfl)) rfl
theorem kw438 : Cond.fieldLink RX11 119 "OnTiptoe$Reader" "length" "I" ∈ WS := WS_of (tm1 _ (List.mem_of_getElem? (i := 120) (by decide +kernel))) rfl
theorem kw439 : Cond.methodLink RX11 115 yX4_addSign ∈ WS := WS_of (tm3 _ (List.mem_of_getElem? (i := 12) (by decide +kernel))) rfl
theorem kw440 : Cond.instanceMethod yX4_addSign ∈ WS := WS_of (tm3 _ (List.mem_of_getElem? (i := 13) (by decide +kernel))) rfl
theorem kw441 : Cond.selects RX4 yX4_addSign yX4_addSign ∈ WS := WS_of (tm3 _ (List.mem_of_getElem? (i := 14) (by decide +kernel))) rfl
theorem kw442 : Cond.code yX4_addSign cX4_addSign 2 (some .boolean) ∈ WS := WS_of (tm3 _ (List.mem_of_getElem? (i := 15) rfl)) rfl
theorem kw443 : Cond.fieldLink RX4 15 "OnTiptoe$Reader" "length" "I" ∈ WS := WS_of (tm1 _ (List.mem_of_getElem? (i := 119) (by decide +kernel))) rfl
theorem kw444 : Cond.methodLink RL 48 yX12_feed ∈ WS := WS_of (tm6 _ (List.mem_of_getElem? (i := 119) (by decide +kernel))) rfl
theorem kw445 : Cond.instanceMethod yX12_feed ∈ WS := WS_of (tm6 _ (List.mem_of_getElem? (i := 120) (by decide +kernel))) rfl
theorem kw446 : Cond.selects RX12 yX12_feed yX12_feed ∈ WS := WS_of (tm6 _ (List.mem_of_getElem? (i := 121) (by decide +kernel))) rfl
theorem kw447 : Cond.code yX12_feed cX12_feed 2 (some .int) ∈ WS := WS_of (tm6 _ (List.mem_of_getElem? (i := 122) rfl)) rfl
theorem kw448 : Cond.methodLink RL 49 yX11_night ∈ WS := WS_of (tm3 _ (List.mem_of_getElem? (i := 16) (by decide +kernel))) rfl
theorem kw449 : Cond.instanceMethod yX11_night ∈ WS := WS_of (tm3 _ (List.mem_of_getElem? (i := 17) (by decide +kernel))) rfl
theorem kw450 : Cond.selects RX11 yX11_night yX11_night ∈ WS := WS_of (tm3 _ (List.mem_of_getElem? (i := 18) (by decide +kernel))) rfl
theorem kw451 : Cond.code yX11_night cX11_night 2 (some .int) ∈ WS := WS_of (tm3 _ (List.mem_of_getElem? (i := 19) rfl)) rfl
theorem kw452 : Cond.fieldLink RX11 122 "OnTiptoe" "nightCount" "I" ∈ WS := WS_of (tm1 _ (List.mem_of_getElem? (i := 207) (by decide +kernel))) rfl
theorem kw453 : Cond.fieldLink RX11 129 "OnTiptoe$House" "night" "LOnTiptoe$Night;" ∈ WS := WS_of (tm1 _ (List.mem_of_getElem? (i := 70) (by decide +kernel))) rfl
theorem kw454 : Cond.methodLink RX11 125 yX4_readNight ∈ WS := WS_of (tm3 _ (List.mem_of_getElem? (i := 20) (by decide +kernel))) rfl
theorem kw455 : Cond.instanceMethod yX4_readNight ∈ WS := WS_of (tm3 _ (List.mem_of_getElem? (i := 21) (by decide +kernel))) rfl
theorem kw456 : Cond.selects RX4 yX4_readNight yX4_readNight ∈ WS := WS_of (tm3 _ (List.mem_of_getElem? (i := 22) (by decide +kernel))) rfl
theorem kw457 : Cond.code yX4_readNight cX4_readNight 6 (some .int) ∈ WS := WS_of (tm3 _ (List.mem_of_getElem? (i := 23) rfl)) rfl
theorem kw458 : Cond.fieldLink RX4 19 "OnTiptoe$Reader" "at" "I" ∈ WS := WS_of (tm1 _ (List.mem_of_getElem? (i := 121) (by decide +kernel))) rfl
theorem kw459 : Cond.fieldLink RX4 22 "OnTiptoe$Reader" "night" "LOnTiptoe$Night;" ∈ WS := WS_of (tm1 _ (List.mem_of_getElem? (i := 122) (by decide +kernel))) rfl
theorem kw460 : Cond.methodLink RX4 26 yX3_clear ∈ WS := WS_of (tm3 _ (List.mem_of_getElem? (i := 24) (by decide +kernel))) rfl
theorem kw461 : Cond.instanceMethod yX3_clear ∈ WS := WS_of (tm3 _ (List.mem_of_getElem? (i := 25) (by decide +kernel))) rfl
theorem kw462 : Cond.selects RX3 yX3_clear yX3_clear ∈ WS := WS_of (tm3 _ (List.mem_of_getElem? (i := 26) (by decide +kernel))) rfl
theorem kw463 : Cond.code yX3_clear cX3_clear 1 none ∈ WS := WS_of (tm3 _ (List.mem_of_getElem? (i := 27) rfl)) rfl
theorem kw464 : Cond.fieldLink RX3 28 "OnTiptoe$Night" "codeLength" "I" ∈ WS := WS_of (tm1 _ (List.mem_of_getElem? (i := 187) (by decide +kernel))) rfl
theorem kw465 : Cond.methodLink RX4 31 yX4_readWord ∈ WS := WS_of (tm3 _ (List.mem_of_getElem? (i := 28) (by decide +kernel))) rfl
theorem kw466 : Cond.instanceMethod yX4_readWord ∈ WS := WS_of (tm3 _ (List.mem_of_getElem? (i := 30) (by decide +kernel))) rfl
theorem kw467 : Cond.selects RX4 yX4_readWord yX4_readWord ∈ WS := WS_of (tm0 _ (List.mem_of_getElem? (i := 3) (by decide +kernel))) rfl
theorem kw468 : Cond.code yX4_readWord cX4_readWord 1 (some .int) ∈ WS := WS_of (tm3 _ (List.mem_of_getElem? (i := 31) rfl)) rfl
theorem kw469 : Cond.methodLink RX4 49 yX4_sign ∈ WS := WS_of (tm3 _ (List.mem_of_getElem? (i := 32) (by decide +kernel))) rfl
theorem kw470 : Cond.instanceMethod yX4_sign ∈ WS := WS_of (tm3 _ (List.mem_of_getElem? (i := 34) (by decide +kernel))) rfl
theorem kw471 : Cond.selects RX4 yX4_sign yX4_sign ∈ WS := WS_of (tm0 _ (List.mem_of_getElem? (i := 4) (by decide +kernel))) rfl
theorem kw472 : Cond.code yX4_sign cX4_sign 1 (some .int) ∈ WS := WS_of (tm3 _ (List.mem_of_getElem? (i := 35) rfl)) rfl
theorem kw473 : Cond.methodLink RX4 54 yX4_skipAll ∈ WS := WS_of (tm3 _ (List.mem_of_getElem? (i := 37) (by decide +kernel))) rfl
theorem kw474 : Cond.instanceMethod yX4_skipAll ∈ WS := WS_of (tm3 _ (List.mem_of_getElem? (i := 39) (by decide +kernel))) rfl
theorem kw475 : Cond.selects RX4 yX4_skipAll yX4_skipAll ∈ WS := WS_of (tm0 _ (List.mem_of_getElem? (i := 5) (by decide +kernel))) rfl
theorem kw476 : Cond.code yX4_skipAll cX4_skipAll 4 (some .boolean) ∈ WS := WS_of (tm3 _ (List.mem_of_getElem? (i := 40) rfl)) rfl
theorem kw477 : Cond.methodLink RX4 62 yJ0_length_8abf5 ∈ WS := WS_of (tm3 _ (List.mem_of_getElem? (i := 41) (by decide +kernel))) rfl
theorem kw478 : Cond.instanceMethod yJ0_length_8abf5 ∈ WS := WS_of (tm3 _ (List.mem_of_getElem? (i := 42) (by decide +kernel))) rfl
theorem kw479 : Cond.selects RJ0 yJ0_length_8abf5 yJ0_length_8abf5 ∈ WS := WS_of (tm3 _ (List.mem_of_getElem? (i := 43) (by decide +kernel))) rfl
theorem kw480 : Cond.initialized RJ0 ∈ WS := WS_of (tm1 _ (List.mem_of_getElem? (i := 15) (by decide +kernel))) rfl
theorem kw481 : Cond.code yJ0_length_8abf5 cJ0_length_8abf5 1 (some .int) ∈ WS := WS_of (tm3 _ (List.mem_of_getElem? (i := 44) rfl)) rfl
theorem kw482 : Cond.fieldLink RJ0 9 "java/lang/String" "value" "[B" ∈ WS := WS_of (tm7 _ (List.mem_of_getElem? (i := 230) (by decide +kernel))) rfl
theorem kw483 : Cond.methodLink RJ0 335 yJ0_coder_7d493 ∈ WS := WS_of (tm3 _ (List.mem_of_getElem? (i := 45) (by decide +kernel))) rfl
theorem kw484 : Cond.instanceMethod yJ0_coder_7d493 ∈ WS := WS_of (tm3 _ (List.mem_of_getElem? (i := 46) (by decide +kernel))) rfl
theorem kw485 : Cond.selects RJ0 yJ0_coder_7d493 yJ0_coder_7d493 ∈ WS := WS_of (tm3 _ (List.mem_of_getElem? (i := 47) (by decide +kernel))) rfl
theorem kw486 : Cond.code yJ0_coder_7d493 cJ0_coder_7d493 1 (some .byte) ∈ WS := WS_of (tm3 _ (List.mem_of_getElem? (i := 48) rfl)) rfl
theorem kw487 : Cond.fieldLink RJ0 38 "java/lang/String" "COMPACT_STRINGS" "Z" ∈ WS := WS_of (tm3 _ (List.mem_of_getElem? (i := 49) (by decide +kernel))) rfl
theorem kw488 : Cond.fieldLink RJ0 15 "java/lang/String" "coder" "B" ∈ WS := WS_of (tm7 _ (List.mem_of_getElem? (i := 231) (by decide +kernel))) rfl
theorem kw489 : Cond.methodLink RX4 66 yJ0_charAt_5068e ∈ WS := WS_of (tm3 _ (List.mem_of_getElem? (i := 51) (by decide +kernel))) rfl
theorem kw490 : Cond.instanceMethod yJ0_charAt_5068e ∈ WS := WS_of (tm3 _ (List.mem_of_getElem? (i := 52) (by decide +kernel))) rfl
theorem kw491 : Cond.selects RJ0 yJ0_charAt_5068e yJ0_charAt_5068e ∈ WS := WS_of (tm3 _ (List.mem_of_getElem? (i := 53) (by decide +kernel))) rfl
theorem kw492 : Cond.code yJ0_charAt_5068e cJ0_charAt_5068e 2 (some .char) ∈ WS := WS_of (tm3 _ (List.mem_of_getElem? (i := 54) rfl)) rfl
theorem kw493 : Cond.methodLink RJ0 492 yJ0_isLatin1_aae02 ∈ WS := WS_of (tm3 _ (List.mem_of_getElem? (i := 55) (by decide +kernel))) rfl
theorem kw494 : Cond.instanceMethod yJ0_isLatin1_aae02 ∈ WS := WS_of (tm3 _ (List.mem_of_getElem? (i := 56) (by decide +kernel))) rfl
theorem kw495 : Cond.selects RJ0 yJ0_isLatin1_aae02 yJ0_isLatin1_aae02 ∈ WS := WS_of (tm3 _ (List.mem_of_getElem? (i := 57) (by decide +kernel))) rfl
theorem kw496 : Cond.code yJ0_isLatin1_aae02 cJ0_isLatin1_aae02 1 (some .boolean) ∈ WS := WS_of (tm3 _ (List.mem_of_getElem? (i := 58) rfl)) rfl
theorem kw497 : Cond.methodLink RJ0 495 yJ1_charAt_3b067 ∈ WS := WS_of (tm3 _ (List.mem_of_getElem? (i := 59) (by decide +kernel))) rfl
theorem kw498 : Cond.static yJ1_charAt_3b067 ∈ WS := WS_of (tm3 _ (List.mem_of_getElem? (i := 60) (by decide +kernel))) rfl
theorem kw499 : Cond.initialized RJ1 ∈ WS := WS_of (tm1 _ (List.mem_of_getElem? (i := 16) (by decide +kernel))) rfl
theorem kw500 : Cond.code yJ1_charAt_3b067 cJ1_charAt_3b067 2 (some .char) ∈ WS := WS_of (tm3 _ (List.mem_of_getElem? (i := 61) rfl)) rfl
theorem kw501 : Cond.methodLink RJ1 9 yJ0_checkIndex_df160 ∈ WS := WS_of (tm3 _ (List.mem_of_getElem? (i := 62) (by decide +kernel))) rfl
theorem kw502 : Cond.static yJ0_checkIndex_df160 ∈ WS := WS_of (tm3 _ (List.mem_of_getElem? (i := 63) (by decide +kernel))) rfl
theorem kw503 : Cond.code yJ0_checkIndex_df160 cJ0_checkIndex_df160 2 none ∈ WS := WS_of (tm3 _ (List.mem_of_getElem? (i := 64) rfl)) rfl
theorem kw504 : Cond.fieldLink RJ0 1053 "jdk/internal/util/Preconditions" "SIOOBE_FORMATTER" "Ljava/util/function/BiFunction;" ∈ WS := WS_of (tm3 _ (List.mem_of_getElem? (i := 65) (by decide +kernel))) rfl
theorem kw505 : Cond.methodLink RJ0 1059 yJ3_checkIndex_8e157 ∈ WS := WS_of (tm3 _ (List.mem_of_getElem? (i := 67) (by decide +kernel))) rfl
theorem kw506 : Cond.static yJ3_checkIndex_8e157 ∈ WS := WS_of (tm3 _ (List.mem_of_getElem? (i := 68) (by decide +kernel))) rfl
theorem kw507 : Cond.initialized RJ3 ∈ WS := WS_of (tm1 _ (List.mem_of_getElem? (i := 17) (by decide +kernel))) rfl
theorem kw508 : Cond.code yJ3_checkIndex_8e157 cJ3_checkIndex_8e157 3 (some .int) ∈ WS := WS_of (tm3 _ (List.mem_of_getElem? (i := 69) rfl)) rfl
theorem kw509 : Cond.methodLink RJ0 498 yJ2_charAt_3b067 ∈ WS := WS_of (tm3 _ (List.mem_of_getElem? (i := 70) (by decide +kernel))) rfl
theorem kw510 : Cond.static yJ2_charAt_3b067 ∈ WS := WS_of (tm3 _ (List.mem_of_getElem? (i := 71) (by decide +kernel))) rfl
theorem kw511 : Cond.initialized RJ2 ∈ WS := WS_of (tm1 _ (List.mem_of_getElem? (i := 18) (by decide +kernel))) rfl
theorem kw512 : Cond.code yJ2_charAt_3b067 cJ2_charAt_3b067 2 (some .char) ∈ WS := WS_of (tm3 _ (List.mem_of_getElem? (i := 72) rfl)) rfl
theorem kw513 : Cond.methodLink RJ2 67 yJ2_checkIndex_2214a ∈ WS := WS_of (tm3 _ (List.mem_of_getElem? (i := 73) (by decide +kernel))) rfl
theorem kw514 : Cond.static yJ2_checkIndex_2214a ∈ WS := WS_of (tm3 _ (List.mem_of_getElem? (i := 74) (by decide +kernel))) rfl
theorem kw515 : Cond.code yJ2_checkIndex_2214a cJ2_checkIndex_2214a 2 none ∈ WS := WS_of (tm3 _ (List.mem_of_getElem? (i := 75) rfl)) rfl
theorem kw516 : Cond.methodLink RJ2 48 yJ2_length_9d52b ∈ WS := WS_of (tm3 _ (List.mem_of_getElem? (i := 76) (by decide +kernel))) rfl
theorem kw517 : Cond.static yJ2_length_9d52b ∈ WS := WS_of (tm3 _ (List.mem_of_getElem? (i := 77) (by decide +kernel))) rfl
theorem kw518 : Cond.code yJ2_length_9d52b cJ2_length_9d52b 1 (some .int) ∈ WS := WS_of (tm3 _ (List.mem_of_getElem? (i := 78) rfl)) rfl
theorem kw519 : Cond.methodLink RJ2 414 yJ0_checkIndex_df160 ∈ WS := WS_of (tm3 _ (List.mem_of_getElem? (i := 79) (by decide +kernel))) rfl
theorem kw520 : Cond.methodLink RJ2 71 yJ2_getChar_3b067 ∈ WS := WS_of (tm3 _ (List.mem_of_getElem? (i := 80) (by decide +kernel))) rfl
theorem kw521 : Cond.static yJ2_getChar_3b067 ∈ WS := WS_of (tm3 _ (List.mem_of_getElem? (i := 81) (by decide +kernel))) rfl
theorem kw522 : Cond.code yJ2_getChar_3b067 cJ2_getChar_3b067 2 (some .char) ∈ WS := WS_of (tm3 _ (List.mem_of_getElem? (i := 82) rfl)) rfl
theorem kw523 : Cond.fieldLink RJ2 44 "java/lang/StringUTF16" "$assertionsDisabled" "Z" ∈ WS := WS_of (tm3 _ (List.mem_of_getElem? (i := 83) (by decide +kernel))) rfl
theorem kw524 : Cond.fieldLink RJ2 59 "java/lang/StringUTF16" "HI_BYTE_SHIFT" "I" ∈ WS := WS_of (tm3 _ (List.mem_of_getElem? (i := 85) (by decide +kernel))) rfl
theorem kw525 : Cond.fieldLink RJ2 63 "java/lang/StringUTF16" "LO_BYTE_SHIFT" "I" ∈ WS := WS_of (tm3 _ (List.mem_of_getElem? (i := 87) (by decide +kernel))) rfl
theorem kw526 : Cond.methodLink RX4 38 yX4_skip ∈ WS := WS_of (tm3 _ (List.mem_of_getElem? (i := 89) (by decide +kernel))) rfl
theorem kw527 : Cond.instanceMethod yX4_skip ∈ WS := WS_of (tm3 _ (List.mem_of_getElem? (i := 91) (by decide +kernel))) rfl
theorem kw528 : Cond.selects RX4 yX4_skip yX4_skip ∈ WS := WS_of (tm0 _ (List.mem_of_getElem? (i := 6) (by decide +kernel))) rfl
theorem kw529 : Cond.code yX4_skip cX4_skip 3 (some .boolean) ∈ WS := WS_of (tm3 _ (List.mem_of_getElem? (i := 92) rfl)) rfl
theorem kw530 : Cond.methodLink RX4 35 yX4_readNumber ∈ WS := WS_of (tm3 _ (List.mem_of_getElem? (i := 95) (by decide +kernel))) rfl
theorem kw531 : Cond.instanceMethod yX4_readNumber ∈ WS := WS_of (tm3 _ (List.mem_of_getElem? (i := 97) (by decide +kernel))) rfl
theorem kw532 : Cond.selects RX4 yX4_readNumber yX4_readNumber ∈ WS := WS_of (tm0 _ (List.mem_of_getElem? (i := 7) (by decide +kernel))) rfl
theorem kw533 : Cond.code yX4_readNumber cX4_readNumber 3 (some .int) ∈ WS := WS_of (tm3 _ (List.mem_of_getElem? (i := 98) rfl)) rfl
theorem kw534 : Cond.methodLink RX4 70 Lib.Math.max.name ∈ WS := WS_of (tm3 _ (List.mem_of_getElem? (i := 99) (by decide +kernel))) rfl
theorem kw535 : Cond.methodLink RX4 42 yX4_readEither ∈ WS := WS_of (tm3 _ (List.mem_of_getElem? (i := 100) (by decide +kernel))) rfl
theorem kw536 : Cond.instanceMethod yX4_readEither ∈ WS := WS_of (tm3 _ (List.mem_of_getElem? (i := 102) (by decide +kernel))) rfl
theorem kw537 : Cond.selects RX4 yX4_readEither yX4_readEither ∈ WS := WS_of (tm0 _ (List.mem_of_getElem? (i := 8) (by decide +kernel))) rfl
theorem kw538 : Cond.code yX4_readEither cX4_readEither 4 (some .boolean) ∈ WS := WS_of (tm3 _ (List.mem_of_getElem? (i := 103) rfl)) rfl
theorem kw539 : Cond.methodLink RX4 76 yX4_readBoth ∈ WS := WS_of (tm3 _ (List.mem_of_getElem? (i := 104) (by decide +kernel))) rfl
theorem kw540 : Cond.instanceMethod yX4_readBoth ∈ WS := WS_of (tm3 _ (List.mem_of_getElem? (i := 106) (by decide +kernel))) rfl
theorem kw541 : Cond.selects RX4 yX4_readBoth yX4_readBoth ∈ WS := WS_of (tm0 _ (List.mem_of_getElem? (i := 9) (by decide +kernel))) rfl
theorem kw542 : Cond.methodLink RX4 79 yX3_addCode ∈ WS := WS_of (tm3 _ (List.mem_of_getElem? (i := 116) (by decide +kernel))) rfl
theorem kw543 : Cond.instanceMethod yX3_addCode ∈ WS := WS_of (tm3 _ (List.mem_of_getElem? (i := 117) (by decide +kernel))) rfl
theorem kw544 : Cond.selects RX3 yX3_addCode yX3_addCode ∈ WS := WS_of (tm3 _ (List.mem_of_getElem? (i := 118) (by decide +kernel))) rfl
theorem kw545 : Cond.code yX3_addCode cX3_addCode 2 none ∈ WS := WS_of (tm3 _ (List.mem_of_getElem? (i := 119) rfl)) rfl
theorem kw546 : Cond.code yX4_readBoth cX4_readBoth 4 (some .boolean) ∈ WS := WS_of (tm3 _ (List.mem_of_getElem? (i := 107) rfl)) rfl
theorem kw547 : Cond.methodLink RX4 83 yX4_readFactor ∈ WS := WS_of (tm3 _ (List.mem_of_getElem? (i := 108) (by decide +kernel))) rfl
theorem kw548 : Cond.instanceMethod yX4_readFactor ∈ WS := WS_of (tm3 _ (List.mem_of_getElem? (i := 110) (by decide +kernel))) rfl
theorem kw549 : Cond.selects RX4 yX4_readFactor yX4_readFactor ∈ WS := WS_of (tm0 _ (List.mem_of_getElem? (i := 10) (by decide +kernel))) rfl
theorem kw550 : Cond.code yX4_readFactor cX4_readFactor 2 (some .boolean) ∈ WS := WS_of (tm3 _ (List.mem_of_getElem? (i := 111) rfl)) rfl
theorem kw551 : Cond.methodLink RX4 86 yX4_readNot ∈ WS := WS_of (tm3 _ (List.mem_of_getElem? (i := 112) (by decide +kernel))) rfl
theorem kw552 : Cond.instanceMethod yX4_readNot ∈ WS := WS_of (tm3 _ (List.mem_of_getElem? (i := 114) (by decide +kernel))) rfl
theorem kw553 : Cond.selects RX4 yX4_readNot yX4_readNot ∈ WS := WS_of (tm0 _ (List.mem_of_getElem? (i := 11) (by decide +kernel))) rfl
theorem kw554 : Cond.methodLink RX4 89 yX4_readGroup ∈ WS := WS_of (tm3 _ (List.mem_of_getElem? (i := 120) (by decide +kernel))) rfl
theorem kw555 : Cond.instanceMethod yX4_readGroup ∈ WS := WS_of (tm3 _ (List.mem_of_getElem? (i := 122) (by decide +kernel))) rfl
theorem kw556 : Cond.selects RX4 yX4_readGroup yX4_readGroup ∈ WS := WS_of (tm0 _ (List.mem_of_getElem? (i := 12) (by decide +kernel))) rfl
theorem kw557 : Cond.methodLink RX4 92 yX4_readTest ∈ WS := WS_of (tm3 _ (List.mem_of_getElem? (i := 124) (by decide +kernel))) rfl
theorem kw558 : Cond.instanceMethod yX4_readTest ∈ WS := WS_of (tm3 _ (List.mem_of_getElem? (i := 126) (by decide +kernel))) rfl
theorem kw559 : Cond.selects RX4 yX4_readTest yX4_readTest ∈ WS := WS_of (tm0 _ (List.mem_of_getElem? (i := 13) (by decide +kernel))) rfl
theorem kw560 : Cond.code yX4_readTest cX4_readTest 4 (some .boolean) ∈ WS := WS_of (tm3 _ (List.mem_of_getElem? (i := 127) rfl)) rfl
theorem kw561 : Cond.methodLink RX4 98 yX4_placeOfSign ∈ WS := WS_of (tm3 _ (List.mem_of_getElem? (i := 129) (by decide +kernel))) rfl
theorem kw562 : Cond.instanceMethod yX4_placeOfSign ∈ WS := WS_of (tm3 _ (List.mem_of_getElem? (i := 131) (by decide +kernel))) rfl
theorem kw563 : Cond.selects RX4 yX4_placeOfSign yX4_placeOfSign ∈ WS := WS_of (tm0 _ (List.mem_of_getElem? (i := 14) (by decide +kernel))) rfl
theorem kw564 : Cond.code yX4_placeOfSign cX4_placeOfSign 2 (some .int) ∈ WS := WS_of (tm3 _ (List.mem_of_getElem? (i := 132) rfl)) rfl
theorem kw565 : Cond.methodLink RX4 104 yJ0_indexOf_0f7a4 ∈ WS := WS_of (tm3 _ (List.mem_of_getElem? (i := 133) (by decide +kernel))) rfl
theorem kw566 : Cond.instanceMethod yJ0_indexOf_0f7a4 ∈ WS := WS_of (tm3 _ (List.mem_of_getElem? (i := 134) (by decide +kernel))) rfl
theorem kw567 : Cond.selects RJ0 yJ0_indexOf_0f7a4 yJ0_indexOf_0f7a4 ∈ WS := WS_of (tm3 _ (List.mem_of_getElem? (i := 135) (by decide +kernel))) rfl
theorem kw568 : Cond.code yJ0_indexOf_0f7a4 cJ0_indexOf_0f7a4 2 (some .int) ∈ WS := WS_of (tm3 _ (List.mem_of_getElem? (i := 136) rfl)) rfl
theorem kw569 : Cond.methodLink RJ0 633 yJ0_indexOf_7cf53 ∈ WS := WS_of (tm3 _ (List.mem_of_getElem? (i := 137) (by decide +kernel))) rfl
theorem kw570 : Cond.instanceMethod yJ0_indexOf_7cf53 ∈ WS := WS_of (tm3 _ (List.mem_of_getElem? (i := 138) (by decide +kernel))) rfl
theorem kw571 : Cond.selects RJ0 yJ0_indexOf_7cf53 yJ0_indexOf_7cf53 ∈ WS := WS_of (tm3 _ (List.mem_of_getElem? (i := 139) (by decide +kernel))) rfl
theorem kw572 : Cond.code yJ0_indexOf_7cf53 cJ0_indexOf_7cf53 3 (some .int) ∈ WS := WS_of (tm3 _ (List.mem_of_getElem? (i := 140) rfl)) rfl
theorem kw573 : Cond.methodLink RJ0 505 yJ0_length_8abf5 ∈ WS := WS_of (tm3 _ (List.mem_of_getElem? (i := 141) (by decide +kernel))) rfl
theorem kw574 : Cond.methodLink RJ0 637 yJ1_indexOf_4cfef ∈ WS := WS_of (tm3 _ (List.mem_of_getElem? (i := 142) (by decide +kernel))) rfl
theorem kw575 : Cond.static yJ1_indexOf_4cfef ∈ WS := WS_of (tm3 _ (List.mem_of_getElem? (i := 143) (by decide +kernel))) rfl
theorem kw576 : Cond.code yJ1_indexOf_4cfef cJ1_indexOf_4cfef 4 (some .int) ∈ WS := WS_of (tm3 _ (List.mem_of_getElem? (i := 144) rfl)) rfl
theorem kw577 : Cond.methodLink RJ1 92 Lib.Math.max.name ∈ WS := WS_of (tm3 _ (List.mem_of_getElem? (i := 148) (by decide +kernel))) rfl
theorem kw578 : Cond.methodLink RJ1 38 Lib.Math.min.name ∈ WS := WS_of (tm3 _ (List.mem_of_getElem? (i := 149) (by decide +kernel))) rfl
theorem kw579 : Cond.static Lib.Math.min.name ∈ WS := WS_of (tm3 _ (List.mem_of_getElem? (i := 150) (by decide +kernel))) rfl
theorem kw580 : Cond.code Lib.Math.min.name Lib.Math.min.code 2 (some .int) ∈ WS := WS_of (tm3 _ (List.mem_of_getElem? (i := 151) rfl)) rfl
theorem kw581 : Cond.methodLink RJ1 88 yJ1_canEncode_9a6ad ∈ WS := WS_of (tm3 _ (List.mem_of_getElem? (i := 145) (by decide +kernel))) rfl
theorem kw582 : Cond.static yJ1_canEncode_9a6ad ∈ WS := WS_of (tm3 _ (List.mem_of_getElem? (i := 146) (by decide +kernel))) rfl
theorem kw583 : Cond.code yJ1_canEncode_9a6ad cJ1_canEncode_9a6ad 1 (some .boolean) ∈ WS := WS_of (tm3 _ (List.mem_of_getElem? (i := 147) rfl)) rfl
theorem kw584 : Cond.methodLink RJ1 95 yJ1_indexOfChar_4cfef ∈ WS := WS_of (tm3 _ (List.mem_of_getElem? (i := 152) (by decide +kernel))) rfl
theorem kw585 : Cond.static yJ1_indexOfChar_4cfef ∈ WS := WS_of (tm3 _ (List.mem_of_getElem? (i := 153) (by decide +kernel))) rfl
theorem kw586 : Cond.code yJ1_indexOfChar_4cfef cJ1_indexOfChar_4cfef 6 (some .int) ∈ WS := WS_of (tm3 _ (List.mem_of_getElem? (i := 154) rfl)) rfl
theorem kw587 : Cond.methodLink RJ0 640 yJ2_indexOf_4cfef ∈ WS := WS_of (tm3 _ (List.mem_of_getElem? (i := 155) (by decide +kernel))) rfl
theorem kw588 : Cond.static yJ2_indexOf_4cfef ∈ WS := WS_of (tm3 _ (List.mem_of_getElem? (i := 156) (by decide +kernel))) rfl
theorem kw589 : Cond.code yJ2_indexOf_4cfef cJ2_indexOf_4cfef 4 (some .int) ∈ WS := WS_of (tm3 _ (List.mem_of_getElem? (i := 157) rfl)) rfl
theorem kw590 : Cond.methodLink RJ2 224 Lib.Math.max.name ∈ WS := WS_of (tm3 _ (List.mem_of_getElem? (i := 158) (by decide +kernel))) rfl
theorem kw591 : Cond.methodLink RJ2 183 Lib.Math.min.name ∈ WS := WS_of (tm3 _ (List.mem_of_getElem? (i := 159) (by decide +kernel))) rfl
theorem kw592 : Cond.constant RJ2 227 (65536) ∈ WS := WS_of (tm3 _ (List.mem_of_getElem? (i := 160) (by decide +kernel))) rfl
theorem kw593 : Cond.methodLink RJ2 228 yJ2_indexOfChar_4cfef ∈ WS := WS_of (tm3 _ (List.mem_of_getElem? (i := 161) (by decide +kernel))) rfl
theorem kw594 : Cond.static yJ2_indexOfChar_4cfef ∈ WS := WS_of (tm3 _ (List.mem_of_getElem? (i := 162) (by decide +kernel))) rfl
theorem kw595 : Cond.code yJ2_indexOfChar_4cfef cJ2_indexOfChar_4cfef 4 (some .int) ∈ WS := WS_of (tm3 _ (List.mem_of_getElem? (i := 163) rfl)) rfl
theorem kw596 : Cond.methodLink RJ2 96 yJ2_checkBoundsBeginEnd_d044e ∈ WS := WS_of (tm3 _ (List.mem_of_getElem? (i := 164) (by decide +kernel))) rfl
theorem kw597 : Cond.static yJ2_checkBoundsBeginEnd_d044e ∈ WS := WS_of (tm3 _ (List.mem_of_getElem? (i := 165) (by decide +kernel))) rfl
theorem kw598 : Cond.code yJ2_checkBoundsBeginEnd_d044e cJ2_checkBoundsBeginEnd_d044e 3 none ∈ WS := WS_of (tm3 _ (List.mem_of_getElem? (i := 166) rfl)) rfl
theorem kw599 : Cond.methodLink RJ2 241 yJ0_checkBoundsBeginEnd_23922 ∈ WS := WS_of (tm3 _ (List.mem_of_getElem? (i := 167) (by decide +kernel))) rfl
theorem kw600 : Cond.static yJ0_checkBoundsBeginEnd_23922 ∈ WS := WS_of (tm3 _ (List.mem_of_getElem? (i := 168) (by decide +kernel))) rfl
theorem kw601 : Cond.code yJ0_checkBoundsBeginEnd_23922 cJ0_checkBoundsBeginEnd_23922 3 none ∈ WS := WS_of (tm3 _ (List.mem_of_getElem? (i := 169) rfl)) rfl
theorem kw602 : Cond.methodLink RJ0 1062 yJ3_checkFromToIndex_8c36e ∈ WS := WS_of (tm3 _ (List.mem_of_getElem? (i := 170) (by decide +kernel))) rfl
theorem kw603 : Cond.static yJ3_checkFromToIndex_8c36e ∈ WS := WS_of (tm3 _ (List.mem_of_getElem? (i := 171) (by decide +kernel))) rfl
theorem kw604 : Cond.code yJ3_checkFromToIndex_8c36e cJ3_checkFromToIndex_8c36e 4 (some .int) ∈ WS := WS_of (tm3 _ (List.mem_of_getElem? (i := 172) rfl)) rfl
theorem kw605 : Cond.methodLink RJ2 244 yJ2_indexOfCharUnsafe_4cfef ∈ WS := WS_of (tm3 _ (List.mem_of_getElem? (i := 173) (by decide +kernel))) rfl
theorem kw606 : Cond.static yJ2_indexOfCharUnsafe_4cfef ∈ WS := WS_of (tm3 _ (List.mem_of_getElem? (i := 174) (by decide +kernel))) rfl
theorem kw607 : Cond.code yJ2_indexOfCharUnsafe_4cfef cJ2_indexOfCharUnsafe_4cfef 5 (some .int) ∈ WS := WS_of (tm3 _ (List.mem_of_getElem? (i := 175) rfl)) rfl
theorem kw608 : Cond.methodLink RJ2 232 yJ2_indexOfSupplementary_4cfef ∈ WS := WS_of (tm3 _ (List.mem_of_getElem? (i := 176) (by decide +kernel))) rfl
theorem kw609 : Cond.static yJ2_indexOfSupplementary_4cfef ∈ WS := WS_of (tm3 _ (List.mem_of_getElem? (i := 177) (by decide +kernel))) rfl
theorem kw610 : Cond.code yJ2_indexOfSupplementary_4cfef cJ2_indexOfSupplementary_4cfef 7 (some .int) ∈ WS := WS_of (tm3 _ (List.mem_of_getElem? (i := 178) rfl)) rfl
theorem kw611 : Cond.methodLink RJ2 164 yJ11_isValidCodePoint_9a6ad ∈ WS := WS_of (tm3 _ (List.mem_of_getElem? (i := 179) (by decide +kernel))) rfl
theorem kw612 : Cond.static yJ11_isValidCodePoint_9a6ad ∈ WS := WS_of (tm3 _ (List.mem_of_getElem? (i := 180) (by decide +kernel))) rfl
theorem kw613 : Cond.initialized RJ11 ∈ WS := WS_of (tm1 _ (List.mem_of_getElem? (i := 19) (by decide +kernel))) rfl
theorem kw614 : Cond.code yJ11_isValidCodePoint_9a6ad cJ11_isValidCodePoint_9a6ad 2 (some .boolean) ∈ WS := WS_of (tm3 _ (List.mem_of_getElem? (i := 181) rfl)) rfl
theorem kw615 : Cond.methodLink RJ2 157 yJ11_highSurrogate_5068e ∈ WS := WS_of (tm3 _ (List.mem_of_getElem? (i := 182) (by decide +kernel))) rfl
theorem kw616 : Cond.static yJ11_highSurrogate_5068e ∈ WS := WS_of (tm3 _ (List.mem_of_getElem? (i := 183) (by decide +kernel))) rfl
theorem kw617 : Cond.code yJ11_highSurrogate_5068e cJ11_highSurrogate_5068e 1 (some .char) ∈ WS := WS_of (tm3 _ (List.mem_of_getElem? (i := 184) rfl)) rfl
theorem kw618 : Cond.constant RJ11 110 (55232) ∈ WS := WS_of (tm3 _ (List.mem_of_getElem? (i := 185) (by decide +kernel))) rfl
theorem kw619 : Cond.methodLink RJ2 161 yJ11_lowSurrogate_5068e ∈ WS := WS_of (tm3 _ (List.mem_of_getElem? (i := 186) (by decide +kernel))) rfl
theorem kw620 : Cond.static yJ11_lowSurrogate_5068e ∈ WS := WS_of (tm3 _ (List.mem_of_getElem? (i := 187) (by decide +kernel))) rfl
theorem kw621 : Cond.code yJ11_lowSurrogate_5068e cJ11_lowSurrogate_5068e 1 (some .char) ∈ WS := WS_of (tm3 _ (List.mem_of_getElem? (i := 188) rfl)) rfl
theorem kw622 : Cond.constant RJ11 76 (56320) ∈ WS := WS_of (tm3 _ (List.mem_of_getElem? (i := 189) (by decide +kernel))) rfl
theorem kw623 : Cond.code yX4_readGroup cX4_readGroup 2 (some .boolean) ∈ WS := WS_of (tm3 _ (List.mem_of_getElem? (i := 123) rfl)) rfl
theorem kw624 : Cond.code yX4_readNot cX4_readNot 3 (some .boolean) ∈ WS := WS_of (tm3 _ (List.mem_of_getElem? (i := 115) rfl)) rfl
theorem kw625 : Cond.methodLink RX4 45 yX3_addClause ∈ WS := WS_of (tm3 _ (List.mem_of_getElem? (i := 191) (by decide +kernel))) rfl
theorem kw626 : Cond.instanceMethod yX3_addClause ∈ WS := WS_of (tm3 _ (List.mem_of_getElem? (i := 192) (by decide +kernel))) rfl
theorem kw627 : Cond.selects RX3 yX3_addClause yX3_addClause ∈ WS := WS_of (tm3 _ (List.mem_of_getElem? (i := 193) (by decide +kernel))) rfl
theorem kw628 : Cond.code yX3_addClause cX3_addClause 3 none ∈ WS := WS_of (tm3 _ (List.mem_of_getElem? (i := 194) rfl)) rfl
theorem kw629 : Cond.methodLink RL 53 yX12_night ∈ WS := WS_of (tm6 _ (List.mem_of_getElem? (i := 123) (by decide +kernel))) rfl
theorem kw630 : Cond.instanceMethod yX12_night ∈ WS := WS_of (tm6 _ (List.mem_of_getElem? (i := 124) (by decide +kernel))) rfl
theorem kw631 : Cond.selects RX12 yX12_night yX12_night ∈ WS := WS_of (tm6 _ (List.mem_of_getElem? (i := 125) (by decide +kernel))) rfl
theorem kw632 : Cond.code yX12_night cX12_night 2 (some .int) ∈ WS := WS_of (tm6 _ (List.mem_of_getElem? (i := 126) rfl)) rfl
theorem kw633 : Cond.methodLink RX12 295 yX12_goesText ∈ WS := WS_of (tm6 _ (List.mem_of_getElem? (i := 127) (by decide +kernel))) rfl
theorem kw634 : Cond.instanceMethod yX12_goesText ∈ WS := WS_of (tm6 _ (List.mem_of_getElem? (i := 129) (by decide +kernel))) rfl
theorem kw635 : Cond.selects RX12 yX12_goesText yX12_goesText ∈ WS := WS_of (tm0 _ (List.mem_of_getElem? (i := 27) (by decide +kernel))) rfl
theorem kw636 : Cond.code yX12_goesText cX12_goesText 3 (some .boolean) ∈ WS := WS_of (tm6 _ (List.mem_of_getElem? (i := 130) rfl)) rfl
theorem kw637 : Cond.methodLink RX12 292 yX12_takesClause ∈ WS := WS_of (tm6 _ (List.mem_of_getElem? (i := 131) (by decide +kernel))) rfl
theorem kw638 : Cond.instanceMethod yX12_takesClause ∈ WS := WS_of (tm6 _ (List.mem_of_getElem? (i := 133) (by decide +kernel))) rfl
theorem kw639 : Cond.selects RX12 yX12_takesClause yX12_takesClause ∈ WS := WS_of (tm0 _ (List.mem_of_getElem? (i := 28) (by decide +kernel))) rfl
theorem kw640 : Cond.code yX12_takesClause cX12_takesClause 2 (some .boolean) ∈ WS := WS_of (tm6 _ (List.mem_of_getElem? (i := 134) rfl)) rfl
theorem kw641 : Cond.methodLink RX12 286 yX12_takesHead ∈ WS := WS_of (tm6 _ (List.mem_of_getElem? (i := 135) (by decide +kernel))) rfl
theorem kw642 : Cond.instanceMethod yX12_takesHead ∈ WS := WS_of (tm6 _ (List.mem_of_getElem? (i := 137) (by decide +kernel))) rfl
theorem kw643 : Cond.selects RX12 yX12_takesHead yX12_takesHead ∈ WS := WS_of (tm0 _ (List.mem_of_getElem? (i := 29) (by decide +kernel))) rfl
theorem kw644 : Cond.code yX12_takesHead cX12_takesHead 2 (some .boolean) ∈ WS := WS_of (tm6 _ (List.mem_of_getElem? (i := 138) rfl)) rfl
theorem kw645 : Cond.methodLink RX12 251 yX12_next ∈ WS := WS_of (tm6 _ (List.mem_of_getElem? (i := 139) (by decide +kernel))) rfl
theorem kw646 : Cond.instanceMethod yX12_next ∈ WS := WS_of (tm6 _ (List.mem_of_getElem? (i := 141) (by decide +kernel))) rfl
theorem kw647 : Cond.selects RX12 yX12_next yX12_next ∈ WS := WS_of (tm0 _ (List.mem_of_getElem? (i := 30) (by decide +kernel))) rfl
theorem kw648 : Cond.code yX12_next cX12_next 1 (some .int) ∈ WS := WS_of (tm6 _ (List.mem_of_getElem? (i := 142) rfl)) rfl
theorem kw649 : Cond.methodLink RX12 282 yX12_takesWord ∈ WS := WS_of (tm6 _ (List.mem_of_getElem? (i := 143) (by decide +kernel))) rfl
theorem kw650 : Cond.instanceMethod yX12_takesWord ∈ WS := WS_of (tm6 _ (List.mem_of_getElem? (i := 145) (by decide +kernel))) rfl
theorem kw651 : Cond.selects RX12 yX12_takesWord yX12_takesWord ∈ WS := WS_of (tm0 _ (List.mem_of_getElem? (i := 31) (by decide +kernel))) rfl
theorem kw652 : Cond.code yX12_takesWord cX12_takesWord 4 (some .boolean) ∈ WS := WS_of (tm6 _ (List.mem_of_getElem? (i := 146) rfl)) rfl
theorem kw653 : Cond.methodLink RX12 255 yX12_takes ∈ WS := WS_of (tm6 _ (List.mem_of_getElem? (i := 147) (by decide +kernel))) rfl
theorem kw654 : Cond.instanceMethod yX12_takes ∈ WS := WS_of (tm6 _ (List.mem_of_getElem? (i := 149) (by decide +kernel))) rfl
theorem kw655 : Cond.selects RX12 yX12_takes yX12_takes ∈ WS := WS_of (tm0 _ (List.mem_of_getElem? (i := 32) (by decide +kernel))) rfl
theorem kw656 : Cond.code yX12_takes cX12_takes 2 (some .boolean) ∈ WS := WS_of (tm6 _ (List.mem_of_getElem? (i := 150) rfl)) rfl
theorem kw657 : Cond.methodLink RX12 270 yX12_takesNumber ∈ WS := WS_of (tm6 _ (List.mem_of_getElem? (i := 151) (by decide +kernel))) rfl
theorem kw658 : Cond.instanceMethod yX12_takesNumber ∈ WS := WS_of (tm6 _ (List.mem_of_getElem? (i := 153) (by decide +kernel))) rfl
theorem kw659 : Cond.selects RX12 yX12_takesNumber yX12_takesNumber ∈ WS := WS_of (tm0 _ (List.mem_of_getElem? (i := 33) (by decide +kernel))) rfl
theorem kw660 : Cond.code yX12_takesNumber cX12_takesNumber 2 (some .boolean) ∈ WS := WS_of (tm6 _ (List.mem_of_getElem? (i := 154) rfl)) rfl
theorem kw661 : Cond.methodLink RX12 258 yX12_isDigit ∈ WS := WS_of (tm6 _ (List.mem_of_getElem? (i := 155) (by decide +kernel))) rfl
theorem kw662 : Cond.instanceMethod yX12_isDigit ∈ WS := WS_of (tm6 _ (List.mem_of_getElem? (i := 157) (by decide +kernel))) rfl
theorem kw663 : Cond.selects RX12 yX12_isDigit yX12_isDigit ∈ WS := WS_of (tm0 _ (List.mem_of_getElem? (i := 34) (by decide +kernel))) rfl
theorem kw664 : Cond.code yX12_isDigit cX12_isDigit 1 (some .boolean) ∈ WS := WS_of (tm6 _ (List.mem_of_getElem? (i := 158) rfl)) rfl
theorem kw665 : Cond.methodLink RX12 289 yX12_takesE ∈ WS := WS_of (tm6 _ (List.mem_of_getElem? (i := 159) (by decide +kernel))) rfl
theorem kw666 : Cond.instanceMethod yX12_takesE ∈ WS := WS_of (tm6 _ (List.mem_of_getElem? (i := 161) (by decide +kernel))) rfl
theorem kw667 : Cond.selects RX12 yX12_takesE yX12_takesE ∈ WS := WS_of (tm0 _ (List.mem_of_getElem? (i := 35) (by decide +kernel))) rfl
theorem kw668 : Cond.code yX12_takesE cX12_takesE 4 (some .boolean) ∈ WS := WS_of (tm6 _ (List.mem_of_getElem? (i := 162) rfl)) rfl
theorem kw669 : Cond.methodLink RX12 276 yX12_takesTest ∈ WS := WS_of (tm6 _ (List.mem_of_getElem? (i := 163) (by decide +kernel))) rfl
theorem kw670 : Cond.instanceMethod yX12_takesTest ∈ WS := WS_of (tm6 _ (List.mem_of_getElem? (i := 165) (by decide +kernel))) rfl
theorem kw671 : Cond.selects RX12 yX12_takesTest yX12_takesTest ∈ WS := WS_of (tm0 _ (List.mem_of_getElem? (i := 36) (by decide +kernel))) rfl
theorem kw672 : Cond.code yX12_takesTest cX12_takesTest 3 (some .boolean) ∈ WS := WS_of (tm6 _ (List.mem_of_getElem? (i := 166) rfl)) rfl
theorem kw673 : Cond.methodLink RX12 266 yX12_place ∈ WS := WS_of (tm6 _ (List.mem_of_getElem? (i := 167) (by decide +kernel))) rfl
theorem kw674 : Cond.instanceMethod yX12_place ∈ WS := WS_of (tm6 _ (List.mem_of_getElem? (i := 169) (by decide +kernel))) rfl
theorem kw675 : Cond.selects RX12 yX12_place yX12_place ∈ WS := WS_of (tm0 _ (List.mem_of_getElem? (i := 37) (by decide +kernel))) rfl
theorem kw676 : Cond.code yX12_place cX12_place 2 (some .int) ∈ WS := WS_of (tm6 _ (List.mem_of_getElem? (i := 170) rfl)) rfl
theorem kw677 : Cond.methodLink RX12 262 yX12_emits ∈ WS := WS_of (tm6 _ (List.mem_of_getElem? (i := 171) (by decide +kernel))) rfl
theorem kw678 : Cond.instanceMethod yX12_emits ∈ WS := WS_of (tm6 _ (List.mem_of_getElem? (i := 173) (by decide +kernel))) rfl
theorem kw679 : Cond.selects RX12 yX12_emits yX12_emits ∈ WS := WS_of (tm0 _ (List.mem_of_getElem? (i := 38) (by decide +kernel))) rfl
theorem kw680 : Cond.code yX12_emits cX12_emits 2 none ∈ WS := WS_of (tm6 _ (List.mem_of_getElem? (i := 174) rfl)) rfl
theorem kw681 : Cond.methodLink RX12 273 yX12_whole ∈ WS := WS_of (tm6 _ (List.mem_of_getElem? (i := 175) (by decide +kernel))) rfl
theorem kw682 : Cond.instanceMethod yX12_whole ∈ WS := WS_of (tm6 _ (List.mem_of_getElem? (i := 177) (by decide +kernel))) rfl
theorem kw683 : Cond.selects RX12 yX12_whole yX12_whole ∈ WS := WS_of (tm0 _ (List.mem_of_getElem? (i := 39) (by decide +kernel))) rfl
theorem kw684 : Cond.code yX12_whole cX12_whole 1 none ∈ WS := WS_of (tm6 _ (List.mem_of_getElem? (i := 178) rfl)) rfl
theorem kw685 : Cond.methodLink RX12 279 yX12_settle ∈ WS := WS_of (tm6 _ (List.mem_of_getElem? (i := 179) (by decide +kernel))) rfl
theorem kw686 : Cond.instanceMethod yX12_settle ∈ WS := WS_of (tm6 _ (List.mem_of_getElem? (i := 181) (by decide +kernel))) rfl
theorem kw687 : Cond.selects RX12 yX12_settle yX12_settle ∈ WS := WS_of (tm0 _ (List.mem_of_getElem? (i := 40) (by decide +kernel))) rfl
theorem kw688 : Cond.code yX12_settle cX12_settle 2 none ∈ WS := WS_of (tm6 _ (List.mem_of_getElem? (i := 182) rfl)) rfl
theorem kw689 : Cond.methodLink RL 54 yX11_told ∈ WS := WS_of (tm3 _ (List.mem_of_getElem? (i := 195) (by decide +kernel))) rfl
theorem kw690 : Cond.instanceMethod yX11_told ∈ WS := WS_of (tm3 _ (List.mem_of_getElem? (i := 196) (by decide +kernel))) rfl
theorem kw691 : Cond.selects RX11 yX11_told yX11_told ∈ WS := WS_of (tm3 _ (List.mem_of_getElem? (i := 197) (by decide +kernel))) rfl
theorem kw692 : Cond.code yX11_told cX11_told 2 (some .int) ∈ WS := WS_of (tm3 _ (List.mem_of_getElem? (i := 198) rfl)) rfl
theorem kw693 : Cond.fieldLink RX11 133 "OnTiptoe$House" "stirs" "I" ∈ WS := WS_of (tm1 _ (List.mem_of_getElem? (i := 48) (by decide +kernel))) rfl
theorem kw694 : Cond.fieldLink RX11 136 "OnTiptoe$House" "awake" "Z" ∈ WS := WS_of (tm1 _ (List.mem_of_getElem? (i := 50) (by decide +kernel))) rfl
theorem kw695 : Cond.methodLink RX11 140 yX2_depth ∈ WS := WS_of (tm3 _ (List.mem_of_getElem? (i := 199) (by decide +kernel))) rfl
theorem kw696 : Cond.instanceMethod yX2_depth ∈ WS := WS_of (tm3 _ (List.mem_of_getElem? (i := 200) (by decide +kernel))) rfl
theorem kw697 : Cond.selects RX2 yX2_depth yX2_depth ∈ WS := WS_of (tm3 _ (List.mem_of_getElem? (i := 201) (by decide +kernel))) rfl
theorem kw698 : Cond.code yX2_depth cX2_depth 2 (some .int) ∈ WS := WS_of (tm3 _ (List.mem_of_getElem? (i := 202) rfl)) rfl
theorem kw699 : Cond.methodLink RX2 72 yX3_hasDeep ∈ WS := WS_of (tm3 _ (List.mem_of_getElem? (i := 203) (by decide +kernel))) rfl
theorem kw700 : Cond.instanceMethod yX3_hasDeep ∈ WS := WS_of (tm3 _ (List.mem_of_getElem? (i := 204) (by decide +kernel))) rfl
theorem kw701 : Cond.selects RX3 yX3_hasDeep yX3_hasDeep ∈ WS := WS_of (tm3 _ (List.mem_of_getElem? (i := 205) (by decide +kernel))) rfl
theorem kw702 : Cond.code yX3_hasDeep cX3_hasDeep 3 (some .boolean) ∈ WS := WS_of (tm3 _ (List.mem_of_getElem? (i := 206) rfl)) rfl
theorem kw703 : Cond.methodLink RL 57 yX12_told ∈ WS := WS_of (tm6 _ (List.mem_of_getElem? (i := 223) (by decide +kernel))) rfl
theorem kw704 : Cond.instanceMethod yX12_told ∈ WS := WS_of (tm6 _ (List.mem_of_getElem? (i := 224) (by decide +kernel))) rfl
theorem kw705 : Cond.selects RX12 yX12_told yX12_told ∈ WS := WS_of (tm6 _ (List.mem_of_getElem? (i := 225) (by decide +kernel))) rfl
theorem kw706 : Cond.code yX12_told cX12_told 2 (some .int) ∈ WS := WS_of (tm6 _ (List.mem_of_getElem? (i := 226) rfl)) rfl
theorem kw707 : Cond.methodLink RX12 331 yX12_depthAt ∈ WS := WS_of (tm6 _ (List.mem_of_getElem? (i := 227) (by decide +kernel))) rfl
theorem kw708 : Cond.instanceMethod yX12_depthAt ∈ WS := WS_of (tm6 _ (List.mem_of_getElem? (i := 229) (by decide +kernel))) rfl
theorem kw709 : Cond.selects RX12 yX12_depthAt yX12_depthAt ∈ WS := WS_of (tm0 _ (List.mem_of_getElem? (i := 50) (by decide +kernel))) rfl
theorem kw710 : Cond.code yX12_depthAt cX12_depthAt 2 (some .int) ∈ WS := WS_of (tm6 _ (List.mem_of_getElem? (i := 230) rfl)) rfl
theorem kw711 : Cond.methodLink RX12 312 yX12_hasDeep ∈ WS := WS_of (tm6 _ (List.mem_of_getElem? (i := 231) (by decide +kernel))) rfl
theorem kw712 : Cond.instanceMethod yX12_hasDeep ∈ WS := WS_of (tm6 _ (List.mem_of_getElem? (i := 233) (by decide +kernel))) rfl
theorem kw713 : Cond.selects RX12 yX12_hasDeep yX12_hasDeep ∈ WS := WS_of (tm0 _ (List.mem_of_getElem? (i := 51) (by decide +kernel))) rfl
theorem kw714 : Cond.code yX12_hasDeep cX12_hasDeep 2 (some .boolean) ∈ WS := WS_of (tm6 _ (List.mem_of_getElem? (i := 234) rfl)) rfl
theorem kw715 : Cond.methodLink RL 58 yX11_step ∈ WS := WS_of (tm3 _ (List.mem_of_getElem? (i := 207) (by decide +kernel))) rfl
theorem kw716 : Cond.instanceMethod yX11_step ∈ WS := WS_of (tm3 _ (List.mem_of_getElem? (i := 208) (by decide +kernel))) rfl
theorem kw717 : Cond.selects RX11 yX11_step yX11_step ∈ WS := WS_of (tm3 _ (List.mem_of_getElem? (i := 209) (by decide +kernel))) rfl
theorem kw718 : Cond.code yX11_step cX11_step 6 (some .int) ∈ WS := WS_of (tm3 _ (List.mem_of_getElem? (i := 210) rfl)) rfl
theorem kw719 : Cond.methodLink RX11 143 yX11_areBeside ∈ WS := WS_of (tm3 _ (List.mem_of_getElem? (i := 211) (by decide +kernel))) rfl
theorem kw720 : Cond.static yX11_areBeside ∈ WS := WS_of (tm3 _ (List.mem_of_getElem? (i := 212) (by decide +kernel))) rfl
theorem kw721 : Cond.code yX11_areBeside cX11_areBeside 4 (some .boolean) ∈ WS := WS_of (tm3 _ (List.mem_of_getElem? (i := 213) rfl)) rfl
theorem kw722 : Cond.methodLink RX11 285 yX11_boardBeside ∈ WS := WS_of (tm3 _ (List.mem_of_getElem? (i := 214) (by decide +kernel))) rfl
theorem kw723 : Cond.static yX11_boardBeside ∈ WS := WS_of (tm3 _ (List.mem_of_getElem? (i := 215) (by decide +kernel))) rfl
theorem kw724 : Cond.code yX11_boardBeside cX11_boardBeside 3 (some .int) ∈ WS := WS_of (tm3 _ (List.mem_of_getElem? (i := 216) rfl)) rfl
theorem kw725 : Cond.methodLink RX11 147 ⟨"OnTiptoe$Walker", "stepMinutes", "()I"⟩ ∈ WS := WS_of (tm3 _ (List.mem_of_getElem? (i := 217) (by decide +kernel))) rfl
theorem kw726 : Cond.sameMethod "OnTiptoe$Walker" "OnTiptoe$Walker" "stepMinutes" "()I" ∈ WS := WS_of (tm3 _ (List.mem_of_getElem? (i := 220) (by decide +kernel))) rfl
theorem kw727 : Cond.selects RX0 ⟨"OnTiptoe$Walker", "stepMinutes", "()I"⟩ yX9_stepMinutes ∈ WS := WS_of (tm3 _ (List.mem_of_getElem? (i := 221) (by decide +kernel))) rfl
theorem kw728 : Cond.instanceMethod yX9_stepMinutes ∈ WS := WS_of (tm3 _ (List.mem_of_getElem? (i := 218) (by decide +kernel))) rfl
theorem kw729 : Cond.code yX9_stepMinutes cX9_stepMinutes 1 (some .int) ∈ WS := WS_of (tm3 _ (List.mem_of_getElem? (i := 229) rfl)) rfl
theorem kw730 : Cond.selects RX1 ⟨"OnTiptoe$Walker", "stepMinutes", "()I"⟩ yX9_stepMinutes ∈ WS := WS_of (tm3 _ (List.mem_of_getElem? (i := 222) (by decide +kernel))) rfl
theorem kw731 : Cond.instanceMethod ⟨"OnTiptoe$Walker", "stepMinutes", "()I"⟩ ∈ WS := WS_of (tm3 _ (List.mem_of_getElem? (i := 218) (by decide +kernel))) rfl
theorem kw732 : Cond.selects RX5 ⟨"OnTiptoe$Walker", "stepMinutes", "()I"⟩ yX5_stepMinutes ∈ WS := WS_of (tm3 _ (List.mem_of_getElem? (i := 223) (by decide +kernel))) rfl
theorem kw733 : Cond.instanceMethod yX5_stepMinutes ∈ WS := WS_of (tm3 _ (List.mem_of_getElem? (i := 224) (by decide +kernel))) rfl
theorem kw734 : Cond.code yX5_stepMinutes cX5_stepMinutes 1 (some .int) ∈ WS := WS_of (tm3 _ (List.mem_of_getElem? (i := 225) rfl)) rfl
theorem kw735 : Cond.selects RX6 ⟨"OnTiptoe$Walker", "stepMinutes", "()I"⟩ yX9_stepMinutes ∈ WS := WS_of (tm3 _ (List.mem_of_getElem? (i := 226) (by decide +kernel))) rfl
theorem kw736 : Cond.selects RX7 ⟨"OnTiptoe$Walker", "stepMinutes", "()I"⟩ yX9_stepMinutes ∈ WS := WS_of (tm3 _ (List.mem_of_getElem? (i := 227) (by decide +kernel))) rfl
theorem kw737 : Cond.selects RX8 ⟨"OnTiptoe$Walker", "stepMinutes", "()I"⟩ yX5_stepMinutes ∈ WS := WS_of (tm3 _ (List.mem_of_getElem? (i := 228) (by decide +kernel))) rfl
theorem kw738 : Cond.methodLink RX11 147 yX9_stepMinutes ∈ WS := WS_of (tm3 _ (List.mem_of_getElem? (i := 217) (by decide +kernel))) rfl
theorem kw739 : Cond.selects RX9 yX9_stepMinutes yX9_stepMinutes ∈ WS := WS_of (tm3 _ (List.mem_of_getElem? (i := 219) (by decide +kernel))) rfl
theorem kw740 : Cond.methodLink RX11 150 yX11_stirsBehind ∈ WS := WS_of (tm3 _ (List.mem_of_getElem? (i := 230) (by decide +kernel))) rfl
theorem kw741 : Cond.static yX11_stirsBehind ∈ WS := WS_of (tm3 _ (List.mem_of_getElem? (i := 231) (by decide +kernel))) rfl
theorem kw742 : Cond.code yX11_stirsBehind cX11_stirsBehind 3 (some .int) ∈ WS := WS_of (tm3 _ (List.mem_of_getElem? (i := 232) rfl)) rfl
theorem kw743 : Cond.methodLink RL 61 yX12_step ∈ WS := WS_of (tm6 _ (List.mem_of_getElem? (i := 235) (by decide +kernel))) rfl
theorem kw744 : Cond.instanceMethod yX12_step ∈ WS := WS_of (tm6 _ (List.mem_of_getElem? (i := 236) (by decide +kernel))) rfl
theorem kw745 : Cond.selects RX12 yX12_step yX12_step ∈ WS := WS_of (tm6 _ (List.mem_of_getElem? (i := 237) (by decide +kernel))) rfl
theorem kw746 : Cond.code yX12_step cX12_step 3 (some .int) ∈ WS := WS_of (tm6 _ (List.mem_of_getElem? (i := 238) rfl)) rfl
theorem kw747 : Cond.methodLink RX12 334 yX12_areBeside ∈ WS := WS_of (tm6 _ (List.mem_of_getElem? (i := 239) (by decide +kernel))) rfl
theorem kw748 : Cond.instanceMethod yX12_areBeside ∈ WS := WS_of (tm7 _ (List.mem_of_getElem? (i := 1) (by decide +kernel))) rfl
theorem kw749 : Cond.selects RX12 yX12_areBeside yX12_areBeside ∈ WS := WS_of (tm0 _ (List.mem_of_getElem? (i := 52) (by decide +kernel))) rfl
theorem kw750 : Cond.code yX12_areBeside cX12_areBeside 3 (some .boolean) ∈ WS := WS_of (tm7 _ (List.mem_of_getElem? (i := 2) rfl)) rfl
theorem kw751 : Cond.methodLink RX12 240 yX12_apart ∈ WS := WS_of (tm7 _ (List.mem_of_getElem? (i := 3) (by decide +kernel))) rfl
theorem kw752 : Cond.instanceMethod yX12_apart ∈ WS := WS_of (tm7 _ (List.mem_of_getElem? (i := 5) (by decide +kernel))) rfl
theorem kw753 : Cond.selects RX12 yX12_apart yX12_apart ∈ WS := WS_of (tm0 _ (List.mem_of_getElem? (i := 53) (by decide +kernel))) rfl
theorem kw754 : Cond.code yX12_apart cX12_apart 3 (some .int) ∈ WS := WS_of (tm7 _ (List.mem_of_getElem? (i := 6) rfl)) rfl
theorem kw755 : Cond.methodLink RX12 337 yX12_timeOf ∈ WS := WS_of (tm7 _ (List.mem_of_getElem? (i := 7) (by decide +kernel))) rfl
theorem kw756 : Cond.instanceMethod yX12_timeOf ∈ WS := WS_of (tm7 _ (List.mem_of_getElem? (i := 9) (by decide +kernel))) rfl
theorem kw757 : Cond.selects RX12 yX12_timeOf yX12_timeOf ∈ WS := WS_of (tm0 _ (List.mem_of_getElem? (i := 54) (by decide +kernel))) rfl
theorem kw758 : Cond.code yX12_timeOf cX12_timeOf 2 (some .int) ∈ WS := WS_of (tm7 _ (List.mem_of_getElem? (i := 10) rfl)) rfl
theorem kw759 : Cond.methodLink RX12 340 yX12_stirsBy ∈ WS := WS_of (tm7 _ (List.mem_of_getElem? (i := 11) (by decide +kernel))) rfl
theorem kw760 : Cond.instanceMethod yX12_stirsBy ∈ WS := WS_of (tm7 _ (List.mem_of_getElem? (i := 13) (by decide +kernel))) rfl
theorem kw761 : Cond.selects RX12 yX12_stirsBy yX12_stirsBy ∈ WS := WS_of (tm0 _ (List.mem_of_getElem? (i := 55) (by decide +kernel))) rfl
theorem kw762 : Cond.code yX12_stirsBy cX12_stirsBy 7 (some .int) ∈ WS := WS_of (tm7 _ (List.mem_of_getElem? (i := 14) rfl)) rfl
theorem kw763 : Cond.methodLink RL 62 yX11_still ∈ WS := WS_of (tm3 _ (List.mem_of_getElem? (i := 233) (by decide +kernel))) rfl
theorem kw764 : Cond.instanceMethod yX11_still ∈ WS := WS_of (tm3 _ (List.mem_of_getElem? (i := 234) (by decide +kernel))) rfl
theorem kw765 : Cond.selects RX11 yX11_still yX11_still ∈ WS := WS_of (tm3 _ (List.mem_of_getElem? (i := 235) (by decide +kernel))) rfl
theorem kw766 : Cond.code yX11_still cX11_still 2 (some .int) ∈ WS := WS_of (tm3 _ (List.mem_of_getElem? (i := 236) rfl)) rfl
theorem kw767 : Cond.methodLink RX11 154 Lib.Math.max.name ∈ WS := WS_of (tm3 _ (List.mem_of_getElem? (i := 237) (by decide +kernel))) rfl
theorem kw768 : Cond.methodLink RL 65 yX12_still ∈ WS := WS_of (tm7 _ (List.mem_of_getElem? (i := 15) (by decide +kernel))) rfl
theorem kw769 : Cond.instanceMethod yX12_still ∈ WS := WS_of (tm7 _ (List.mem_of_getElem? (i := 16) (by decide +kernel))) rfl
theorem kw770 : Cond.selects RX12 yX12_still yX12_still ∈ WS := WS_of (tm7 _ (List.mem_of_getElem? (i := 17) (by decide +kernel))) rfl
theorem kw771 : Cond.code yX12_still cX12_still 2 (some .int) ∈ WS := WS_of (tm7 _ (List.mem_of_getElem? (i := 18) rfl)) rfl
theorem kw772 : Cond.methodLink RL 66 yX11_lull ∈ WS := WS_of (tm3 _ (List.mem_of_getElem? (i := 238) (by decide +kernel))) rfl
theorem kw773 : Cond.instanceMethod yX11_lull ∈ WS := WS_of (tm3 _ (List.mem_of_getElem? (i := 239) (by decide +kernel))) rfl
theorem kw774 : Cond.selects RX11 yX11_lull yX11_lull ∈ WS := WS_of (tm4 _ (List.mem_of_getElem? (i := 0) (by decide +kernel))) rfl
theorem kw775 : Cond.code yX11_lull cX11_lull 2 (some .int) ∈ WS := WS_of (tm4 _ (List.mem_of_getElem? (i := 1) rfl)) rfl
theorem kw776 : Cond.methodLink RL 69 yX12_lull ∈ WS := WS_of (tm7 _ (List.mem_of_getElem? (i := 19) (by decide +kernel))) rfl
theorem kw777 : Cond.instanceMethod yX12_lull ∈ WS := WS_of (tm7 _ (List.mem_of_getElem? (i := 20) (by decide +kernel))) rfl
theorem kw778 : Cond.selects RX12 yX12_lull yX12_lull ∈ WS := WS_of (tm7 _ (List.mem_of_getElem? (i := 21) (by decide +kernel))) rfl
theorem kw779 : Cond.code yX12_lull cX12_lull 2 (some .int) ∈ WS := WS_of (tm7 _ (List.mem_of_getElem? (i := 22) rfl)) rfl
theorem kw780 : Cond.methodLink RL 70 yX11_way ∈ WS := WS_of (tm4 _ (List.mem_of_getElem? (i := 2) (by decide +kernel))) rfl
theorem kw781 : Cond.instanceMethod yX11_way ∈ WS := WS_of (tm4 _ (List.mem_of_getElem? (i := 3) (by decide +kernel))) rfl
theorem kw782 : Cond.selects RX11 yX11_way yX11_way ∈ WS := WS_of (tm4 _ (List.mem_of_getElem? (i := 4) (by decide +kernel))) rfl
theorem kw783 : Cond.code yX11_way cX11_way 2 (some .int) ∈ WS := WS_of (tm4 _ (List.mem_of_getElem? (i := 5) rfl)) rfl
theorem kw784 : Cond.fieldLink RX11 160 "OnTiptoe$House" "wayCount" "I" ∈ WS := WS_of (tm1 _ (List.mem_of_getElem? (i := 56) (by decide +kernel))) rfl
theorem kw785 : Cond.fieldLink RX11 163 "OnTiptoe$House" "way" "[I" ∈ WS := WS_of (tm1 _ (List.mem_of_getElem? (i := 53) (by decide +kernel))) rfl
theorem kw786 : Cond.methodLink RL 73 yX12_way ∈ WS := WS_of (tm7 _ (List.mem_of_getElem? (i := 23) (by decide +kernel))) rfl
theorem kw787 : Cond.instanceMethod yX12_way ∈ WS := WS_of (tm7 _ (List.mem_of_getElem? (i := 24) (by decide +kernel))) rfl
theorem kw788 : Cond.selects RX12 yX12_way yX12_way ∈ WS := WS_of (tm7 _ (List.mem_of_getElem? (i := 25) (by decide +kernel))) rfl
theorem kw789 : Cond.code yX12_way cX12_way 2 (some .int) ∈ WS := WS_of (tm7 _ (List.mem_of_getElem? (i := 26) rfl)) rfl
theorem kw790 : Cond.methodLink RL 74 yX11_goes ∈ WS := WS_of (tm4 _ (List.mem_of_getElem? (i := 6) (by decide +kernel))) rfl
theorem kw791 : Cond.instanceMethod yX11_goes ∈ WS := WS_of (tm4 _ (List.mem_of_getElem? (i := 7) (by decide +kernel))) rfl
theorem kw792 : Cond.selects RX11 yX11_goes yX11_goes ∈ WS := WS_of (tm4 _ (List.mem_of_getElem? (i := 8) (by decide +kernel))) rfl
theorem kw793 : Cond.code yX11_goes cX11_goes 5 (some .int) ∈ WS := WS_of (tm4 _ (List.mem_of_getElem? (i := 9) rfl)) rfl
theorem kw794 : Cond.fieldLink RX11 174 "OnTiptoe$Ways" "goneTo" "I" ∈ WS := WS_of (tm1 _ (List.mem_of_getElem? (i := 145) (by decide +kernel))) rfl
theorem kw795 : Cond.fieldLink RX11 177 "OnTiptoe$Ways" "goneMinute" "I" ∈ WS := WS_of (tm1 _ (List.mem_of_getElem? (i := 147) (by decide +kernel))) rfl
theorem kw796 : Cond.fieldLink RX11 180 "OnTiptoe$Ways" "goneStirs" "I" ∈ WS := WS_of (tm1 _ (List.mem_of_getElem? (i := 149) (by decide +kernel))) rfl
theorem kw797 : Cond.methodLink RX11 166 yX10_learn ∈ WS := WS_of (tm4 _ (List.mem_of_getElem? (i := 10) (by decide +kernel))) rfl
theorem kw798 : Cond.instanceMethod yX10_learn ∈ WS := WS_of (tm4 _ (List.mem_of_getElem? (i := 11) (by decide +kernel))) rfl
theorem kw799 : Cond.selects RX10 yX10_learn yX10_learn ∈ WS := WS_of (tm4 _ (List.mem_of_getElem? (i := 12) (by decide +kernel))) rfl
theorem kw800 : Cond.code yX10_learn cX10_learn 4 none ∈ WS := WS_of (tm4 _ (List.mem_of_getElem? (i := 13) rfl)) rfl
theorem kw801 : Cond.fieldLink RX10 27 "OnTiptoe$Ways" "stepMinutes" "I" ∈ WS := WS_of (tm1 _ (List.mem_of_getElem? (i := 141) (by decide +kernel))) rfl
theorem kw802 : Cond.fieldLink RX10 30 "OnTiptoe$House" "door" "I" ∈ WS := WS_of (tm1 _ (List.mem_of_getElem? (i := 41) (by decide +kernel))) rfl
theorem kw803 : Cond.fieldLink RX10 35 "OnTiptoe$Ways" "door" "I" ∈ WS := WS_of (tm1 _ (List.mem_of_getElem? (i := 142) (by decide +kernel))) rfl
theorem kw804 : Cond.fieldLink RX10 39 "OnTiptoe$House" "creak" "[I" ∈ WS := WS_of (tm1 _ (List.mem_of_getElem? (i := 37) (by decide +kernel))) rfl
theorem kw805 : Cond.methodLink RX10 21 ⟨"OnTiptoe$Walker", "stepMinutes", "()I"⟩ ∈ WS := WS_of (tm4 _ (List.mem_of_getElem? (i := 14) (by decide +kernel))) rfl
theorem kw806 : Cond.methodLink RX10 21 yX9_stepMinutes ∈ WS := WS_of (tm4 _ (List.mem_of_getElem? (i := 14) (by decide +kernel))) rfl
theorem kw807 : Cond.methodLink RX10 36 yX2_depth ∈ WS := WS_of (tm4 _ (List.mem_of_getElem? (i := 15) (by decide +kernel))) rfl
theorem kw808 : Cond.methodLink RX10 42 yX2_toyOn ∈ WS := WS_of (tm4 _ (List.mem_of_getElem? (i := 16) (by decide +kernel))) rfl
theorem kw809 : Cond.methodLink RX10 45 yX10_learnBoard ∈ WS := WS_of (tm4 _ (List.mem_of_getElem? (i := 17) (by decide +kernel))) rfl
theorem kw810 : Cond.instanceMethod yX10_learnBoard ∈ WS := WS_of (tm4 _ (List.mem_of_getElem? (i := 18) (by decide +kernel))) rfl
theorem kw811 : Cond.selects RX10 yX10_learnBoard yX10_learnBoard ∈ WS := WS_of (tm4 _ (List.mem_of_getElem? (i := 19) (by decide +kernel))) rfl
theorem kw812 : Cond.code yX10_learnBoard cX10_learnBoard 7 none ∈ WS := WS_of (tm4 _ (List.mem_of_getElem? (i := 20) rfl)) rfl
theorem kw813 : Cond.methodLink RX10 53 ⟨"OnTiptoe$Walker", "kind", "()I"⟩ ∈ WS := WS_of (tm4 _ (List.mem_of_getElem? (i := 22) (by decide +kernel))) rfl
theorem kw814 : Cond.methodLink RX10 53 yX9_kind ∈ WS := WS_of (tm4 _ (List.mem_of_getElem? (i := 22) (by decide +kernel))) rfl
theorem kw815 : Cond.methodLink RX10 56 yX2_loud ∈ WS := WS_of (tm4 _ (List.mem_of_getElem? (i := 23) (by decide +kernel))) rfl
theorem kw816 : Cond.methodLink RX10 60 ⟨"OnTiptoe$Walker", "noise", "(II)I"⟩ ∈ WS := WS_of (tm4 _ (List.mem_of_getElem? (i := 24) (by decide +kernel))) rfl
theorem kw817 : Cond.methodLink RX10 60 yX9_noise ∈ WS := WS_of (tm4 _ (List.mem_of_getElem? (i := 24) (by decide +kernel))) rfl
theorem kw818 : Cond.methodLink RX11 170 yX10_follow ∈ WS := WS_of (tm4 _ (List.mem_of_getElem? (i := 25) (by decide +kernel))) rfl
theorem kw819 : Cond.instanceMethod yX10_follow ∈ WS := WS_of (tm4 _ (List.mem_of_getElem? (i := 26) (by decide +kernel))) rfl
theorem kw820 : Cond.selects RX10 yX10_follow yX10_follow ∈ WS := WS_of (tm4 _ (List.mem_of_getElem? (i := 27) (by decide +kernel))) rfl
theorem kw821 : Cond.code yX10_follow cX10_follow 7 (some .int) ∈ WS := WS_of (tm4 _ (List.mem_of_getElem? (i := 28) rfl)) rfl
theorem kw822 : Cond.fieldLink RX10 63 "OnTiptoe$Ways" "goneTo" "I" ∈ WS := WS_of (tm1 _ (List.mem_of_getElem? (i := 144) (by decide +kernel))) rfl
theorem kw823 : Cond.fieldLink RX10 66 "OnTiptoe$Ways" "goneMinute" "I" ∈ WS := WS_of (tm1 _ (List.mem_of_getElem? (i := 146) (by decide +kernel))) rfl
theorem kw824 : Cond.fieldLink RX10 69 "OnTiptoe$Ways" "goneStirs" "I" ∈ WS := WS_of (tm1 _ (List.mem_of_getElem? (i := 148) (by decide +kernel))) rfl
theorem kw825 : Cond.fieldLink RX10 72 "OnTiptoe$House" "wayCount" "I" ∈ WS := WS_of (tm1 _ (List.mem_of_getElem? (i := 55) (by decide +kernel))) rfl
theorem kw826 : Cond.fieldLink RX10 75 "OnTiptoe$House" "way" "[I" ∈ WS := WS_of (tm1 _ (List.mem_of_getElem? (i := 52) (by decide +kernel))) rfl
theorem kw827 : Cond.methodLink RX10 82 Lib.Math.max.name ∈ WS := WS_of (tm4 _ (List.mem_of_getElem? (i := 30) (by decide +kernel))) rfl
theorem kw828 : Cond.methodLink RX10 87 yX10_noiseAt ∈ WS := WS_of (tm4 _ (List.mem_of_getElem? (i := 31) (by decide +kernel))) rfl
theorem kw829 : Cond.instanceMethod yX10_noiseAt ∈ WS := WS_of (tm4 _ (List.mem_of_getElem? (i := 33) (by decide +kernel))) rfl
theorem kw830 : Cond.selects RX10 yX10_noiseAt yX10_noiseAt ∈ WS := WS_of (tm0 _ (List.mem_of_getElem? (i := 15) (by decide +kernel))) rfl
theorem kw831 : Cond.code yX10_noiseAt cX10_noiseAt 4 (some .int) ∈ WS := WS_of (tm4 _ (List.mem_of_getElem? (i := 34) rfl)) rfl
theorem kw832 : Cond.methodLink RX10 90 yJ9_floorMod_7cf53 ∈ WS := WS_of (tm4 _ (List.mem_of_getElem? (i := 35) (by decide +kernel))) rfl
theorem kw833 : Cond.methodLink RL 77 yX12_goes ∈ WS := WS_of (tm7 _ (List.mem_of_getElem? (i := 27) (by decide +kernel))) rfl
theorem kw834 : Cond.instanceMethod yX12_goes ∈ WS := WS_of (tm7 _ (List.mem_of_getElem? (i := 28) (by decide +kernel))) rfl
theorem kw835 : Cond.selects RX12 yX12_goes yX12_goes ∈ WS := WS_of (tm7 _ (List.mem_of_getElem? (i := 29) (by decide +kernel))) rfl
theorem kw836 : Cond.code yX12_goes cX12_goes 4 (some .int) ∈ WS := WS_of (tm7 _ (List.mem_of_getElem? (i := 30) rfl)) rfl
theorem kw837 : Cond.methodLink RX12 343 yX12_goesBy ∈ WS := WS_of (tm7 _ (List.mem_of_getElem? (i := 31) (by decide +kernel))) rfl
theorem kw838 : Cond.instanceMethod yX12_goesBy ∈ WS := WS_of (tm7 _ (List.mem_of_getElem? (i := 33) (by decide +kernel))) rfl
theorem kw839 : Cond.selects RX12 yX12_goesBy yX12_goesBy ∈ WS := WS_of (tm0 _ (List.mem_of_getElem? (i := 56) (by decide +kernel))) rfl
theorem kw840 : Cond.code yX12_goesBy cX12_goesBy 5 (some .int) ∈ WS := WS_of (tm7 _ (List.mem_of_getElem? (i := 34) rfl)) rfl
theorem kw841 : Cond.methodLink RL 78 yX11_out ∈ WS := WS_of (tm4 _ (List.mem_of_getElem? (i := 37) (by decide +kernel))) rfl
theorem kw842 : Cond.instanceMethod yX11_out ∈ WS := WS_of (tm4 _ (List.mem_of_getElem? (i := 38) (by decide +kernel))) rfl
theorem kw843 : Cond.selects RX11 yX11_out yX11_out ∈ WS := WS_of (tm4 _ (List.mem_of_getElem? (i := 39) (by decide +kernel))) rfl
theorem kw844 : Cond.code yX11_out cX11_out 3 (some .int) ∈ WS := WS_of (tm4 _ (List.mem_of_getElem? (i := 40) rfl)) rfl
theorem kw845 : Cond.methodLink RX11 183 yX10_fewest ∈ WS := WS_of (tm4 _ (List.mem_of_getElem? (i := 41) (by decide +kernel))) rfl
theorem kw846 : Cond.instanceMethod yX10_fewest ∈ WS := WS_of (tm4 _ (List.mem_of_getElem? (i := 42) (by decide +kernel))) rfl
theorem kw847 : Cond.selects RX10 yX10_fewest yX10_fewest ∈ WS := WS_of (tm4 _ (List.mem_of_getElem? (i := 43) (by decide +kernel))) rfl
theorem kw848 : Cond.code yX10_fewest cX10_fewest 8 (some .int) ∈ WS := WS_of (tm4 _ (List.mem_of_getElem? (i := 44) rfl)) rfl
theorem kw849 : Cond.methodLink RX10 97 yX10_leastAt ∈ WS := WS_of (tm4 _ (List.mem_of_getElem? (i := 45) (by decide +kernel))) rfl
theorem kw850 : Cond.instanceMethod yX10_leastAt ∈ WS := WS_of (tm4 _ (List.mem_of_getElem? (i := 47) (by decide +kernel))) rfl
theorem kw851 : Cond.selects RX10 yX10_leastAt yX10_leastAt ∈ WS := WS_of (tm0 _ (List.mem_of_getElem? (i := 16) (by decide +kernel))) rfl
theorem kw852 : Cond.code yX10_leastAt cX10_leastAt 4 (some .int) ∈ WS := WS_of (tm4 _ (List.mem_of_getElem? (i := 48) rfl)) rfl
theorem kw853 : Cond.methodLink RX10 100 yX10_spread ∈ WS := WS_of (tm4 _ (List.mem_of_getElem? (i := 49) (by decide +kernel))) rfl
theorem kw854 : Cond.instanceMethod yX10_spread ∈ WS := WS_of (tm4 _ (List.mem_of_getElem? (i := 51) (by decide +kernel))) rfl
theorem kw855 : Cond.selects RX10 yX10_spread yX10_spread ∈ WS := WS_of (tm0 _ (List.mem_of_getElem? (i := 17) (by decide +kernel))) rfl
theorem kw856 : Cond.code yX10_spread cX10_spread 8 none ∈ WS := WS_of (tm4 _ (List.mem_of_getElem? (i := 52) rfl)) rfl
theorem kw857 : Cond.methodLink RX10 104 yX10_lower ∈ WS := WS_of (tm4 _ (List.mem_of_getElem? (i := 53) (by decide +kernel))) rfl
theorem kw858 : Cond.instanceMethod yX10_lower ∈ WS := WS_of (tm4 _ (List.mem_of_getElem? (i := 55) (by decide +kernel))) rfl
theorem kw859 : Cond.selects RX10 yX10_lower yX10_lower ∈ WS := WS_of (tm0 _ (List.mem_of_getElem? (i := 18) (by decide +kernel))) rfl
theorem kw860 : Cond.code yX10_lower cX10_lower 5 none ∈ WS := WS_of (tm4 _ (List.mem_of_getElem? (i := 56) rfl)) rfl
theorem kw861 : Cond.methodLink RL 81 yX12_out ∈ WS := WS_of (tm7 _ (List.mem_of_getElem? (i := 35) (by decide +kernel))) rfl
theorem kw862 : Cond.instanceMethod yX12_out ∈ WS := WS_of (tm7 _ (List.mem_of_getElem? (i := 36) (by decide +kernel))) rfl
theorem kw863 : Cond.selects RX12 yX12_out yX12_out ∈ WS := WS_of (tm7 _ (List.mem_of_getElem? (i := 37) (by decide +kernel))) rfl
theorem kw864 : Cond.code yX12_out cX12_out 2 (some .int) ∈ WS := WS_of (tm7 _ (List.mem_of_getElem? (i := 38) rfl)) rfl
theorem kw865 : Cond.methodLink RX12 357 yX12_outNow ∈ WS := WS_of (tm7 _ (List.mem_of_getElem? (i := 39) (by decide +kernel))) rfl
theorem kw866 : Cond.instanceMethod yX12_outNow ∈ WS := WS_of (tm7 _ (List.mem_of_getElem? (i := 41) (by decide +kernel))) rfl
theorem kw867 : Cond.selects RX12 yX12_outNow yX12_outNow ∈ WS := WS_of (tm0 _ (List.mem_of_getElem? (i := 57) (by decide +kernel))) rfl
theorem kw868 : Cond.code yX12_outNow cX12_outNow 2 (some .int) ∈ WS := WS_of (tm7 _ (List.mem_of_getElem? (i := 42) rfl)) rfl
theorem kw869 : Cond.methodLink RX12 354 yX12_outBy ∈ WS := WS_of (tm7 _ (List.mem_of_getElem? (i := 43) (by decide +kernel))) rfl
theorem kw870 : Cond.instanceMethod yX12_outBy ∈ WS := WS_of (tm7 _ (List.mem_of_getElem? (i := 45) (by decide +kernel))) rfl
theorem kw871 : Cond.selects RX12 yX12_outBy yX12_outBy ∈ WS := WS_of (tm0 _ (List.mem_of_getElem? (i := 58) (by decide +kernel))) rfl
theorem kw872 : Cond.code yX12_outBy cX12_outBy 7 (some .int) ∈ WS := WS_of (tm7 _ (List.mem_of_getElem? (i := 46) rfl)) rfl
theorem kw873 : Cond.methodLink RX12 346 yX12_stays ∈ WS := WS_of (tm7 _ (List.mem_of_getElem? (i := 47) (by decide +kernel))) rfl
theorem kw874 : Cond.instanceMethod yX12_stays ∈ WS := WS_of (tm7 _ (List.mem_of_getElem? (i := 49) (by decide +kernel))) rfl
theorem kw875 : Cond.selects RX12 yX12_stays yX12_stays ∈ WS := WS_of (tm0 _ (List.mem_of_getElem? (i := 59) (by decide +kernel))) rfl
theorem kw876 : Cond.code yX12_stays cX12_stays 4 none ∈ WS := WS_of (tm7 _ (List.mem_of_getElem? (i := 50) rfl)) rfl
theorem kw877 : Cond.methodLink RX12 350 yX12_treads ∈ WS := WS_of (tm7 _ (List.mem_of_getElem? (i := 51) (by decide +kernel))) rfl
theorem kw878 : Cond.instanceMethod yX12_treads ∈ WS := WS_of (tm7 _ (List.mem_of_getElem? (i := 53) (by decide +kernel))) rfl
theorem kw879 : Cond.selects RX12 yX12_treads yX12_treads ∈ WS := WS_of (tm0 _ (List.mem_of_getElem? (i := 60) (by decide +kernel))) rfl
theorem kw880 : Cond.code yX12_treads cX12_treads 11 none ∈ WS := WS_of (tm7 _ (List.mem_of_getElem? (i := 54) rfl)) rfl
theorem kw881 : Cond.methodLink RL 82 yX11_quiet ∈ WS := WS_of (tm4 _ (List.mem_of_getElem? (i := 58) (by decide +kernel))) rfl
theorem kw882 : Cond.instanceMethod yX11_quiet ∈ WS := WS_of (tm4 _ (List.mem_of_getElem? (i := 59) (by decide +kernel))) rfl
theorem kw883 : Cond.selects RX11 yX11_quiet yX11_quiet ∈ WS := WS_of (tm4 _ (List.mem_of_getElem? (i := 60) (by decide +kernel))) rfl
theorem kw884 : Cond.code yX11_quiet cX11_quiet 4 (some .int) ∈ WS := WS_of (tm4 _ (List.mem_of_getElem? (i := 61) rfl)) rfl
theorem kw885 : Cond.fieldLink RX11 191 "OnTiptoe$Ways" "quietNoise" "I" ∈ WS := WS_of (tm1 _ (List.mem_of_getElem? (i := 151) (by decide +kernel))) rfl
theorem kw886 : Cond.fieldLink RX11 194 "OnTiptoe$Ways" "quietSteps" "I" ∈ WS := WS_of (tm1 _ (List.mem_of_getElem? (i := 153) (by decide +kernel))) rfl
theorem kw887 : Cond.methodLink RX11 187 yX10_seekQuietest ∈ WS := WS_of (tm4 _ (List.mem_of_getElem? (i := 62) (by decide +kernel))) rfl
theorem kw888 : Cond.instanceMethod yX10_seekQuietest ∈ WS := WS_of (tm4 _ (List.mem_of_getElem? (i := 63) (by decide +kernel))) rfl
theorem kw889 : Cond.selects RX10 yX10_seekQuietest yX10_seekQuietest ∈ WS := WS_of (tm4 _ (List.mem_of_getElem? (i := 64) (by decide +kernel))) rfl
theorem kw890 : Cond.code yX10_seekQuietest cX10_seekQuietest 3 none ∈ WS := WS_of (tm4 _ (List.mem_of_getElem? (i := 65) rfl)) rfl
theorem kw891 : Cond.constant RX10 111 (1000000) ∈ WS := WS_of (tm4 _ (List.mem_of_getElem? (i := 66) (by decide +kernel))) rfl
theorem kw892 : Cond.fieldLink RX10 112 "OnTiptoe$Ways" "quietNoise" "I" ∈ WS := WS_of (tm1 _ (List.mem_of_getElem? (i := 150) (by decide +kernel))) rfl
theorem kw893 : Cond.fieldLink RX10 115 "OnTiptoe$Ways" "quietSteps" "I" ∈ WS := WS_of (tm1 _ (List.mem_of_getElem? (i := 152) (by decide +kernel))) rfl
theorem kw894 : Cond.methodLink RX10 118 yX10_seekAt ∈ WS := WS_of (tm4 _ (List.mem_of_getElem? (i := 67) (by decide +kernel))) rfl
theorem kw895 : Cond.instanceMethod yX10_seekAt ∈ WS := WS_of (tm4 _ (List.mem_of_getElem? (i := 69) (by decide +kernel))) rfl
theorem kw896 : Cond.selects RX10 yX10_seekAt yX10_seekAt ∈ WS := WS_of (tm0 _ (List.mem_of_getElem? (i := 19) (by decide +kernel))) rfl
theorem kw897 : Cond.code yX10_seekAt cX10_seekAt 6 none ∈ WS := WS_of (tm4 _ (List.mem_of_getElem? (i := 70) rfl)) rfl
theorem kw898 : Cond.methodLink RX10 122 yX10_seekBeside ∈ WS := WS_of (tm4 _ (List.mem_of_getElem? (i := 71) (by decide +kernel))) rfl
theorem kw899 : Cond.instanceMethod yX10_seekBeside ∈ WS := WS_of (tm4 _ (List.mem_of_getElem? (i := 73) (by decide +kernel))) rfl
theorem kw900 : Cond.selects RX10 yX10_seekBeside yX10_seekBeside ∈ WS := WS_of (tm0 _ (List.mem_of_getElem? (i := 20) (by decide +kernel))) rfl
theorem kw901 : Cond.code yX10_seekBeside cX10_seekBeside 8 none ∈ WS := WS_of (tm4 _ (List.mem_of_getElem? (i := 74) rfl)) rfl
theorem kw902 : Cond.methodLink RL 85 yX12_quiet ∈ WS := WS_of (tm7 _ (List.mem_of_getElem? (i := 55) (by decide +kernel))) rfl
theorem kw903 : Cond.instanceMethod yX12_quiet ∈ WS := WS_of (tm7 _ (List.mem_of_getElem? (i := 56) (by decide +kernel))) rfl
theorem kw904 : Cond.selects RX12 yX12_quiet yX12_quiet ∈ WS := WS_of (tm7 _ (List.mem_of_getElem? (i := 57) (by decide +kernel))) rfl
theorem kw905 : Cond.code yX12_quiet cX12_quiet 3 (some .int) ∈ WS := WS_of (tm7 _ (List.mem_of_getElem? (i := 58) rfl)) rfl
theorem kw906 : Cond.methodLink RX12 366 yX12_layQuiet ∈ WS := WS_of (tm7 _ (List.mem_of_getElem? (i := 59) (by decide +kernel))) rfl
theorem kw907 : Cond.instanceMethod yX12_layQuiet ∈ WS := WS_of (tm7 _ (List.mem_of_getElem? (i := 61) (by decide +kernel))) rfl
theorem kw908 : Cond.selects RX12 yX12_layQuiet yX12_layQuiet ∈ WS := WS_of (tm0 _ (List.mem_of_getElem? (i := 61) (by decide +kernel))) rfl
theorem kw909 : Cond.code yX12_layQuiet cX12_layQuiet 4 none ∈ WS := WS_of (tm7 _ (List.mem_of_getElem? (i := 62) rfl)) rfl
theorem kw910 : Cond.methodLink RX12 360 yX12_found ∈ WS := WS_of (tm7 _ (List.mem_of_getElem? (i := 63) (by decide +kernel))) rfl
theorem kw911 : Cond.instanceMethod yX12_found ∈ WS := WS_of (tm7 _ (List.mem_of_getElem? (i := 65) (by decide +kernel))) rfl
theorem kw912 : Cond.selects RX12 yX12_found yX12_found ∈ WS := WS_of (tm0 _ (List.mem_of_getElem? (i := 62) (by decide +kernel))) rfl
theorem kw913 : Cond.code yX12_found cX12_found 2 none ∈ WS := WS_of (tm7 _ (List.mem_of_getElem? (i := 66) rfl)) rfl
theorem kw914 : Cond.methodLink RX12 363 yX12_isOnTrail ∈ WS := WS_of (tm7 _ (List.mem_of_getElem? (i := 67) (by decide +kernel))) rfl
theorem kw915 : Cond.instanceMethod yX12_isOnTrail ∈ WS := WS_of (tm7 _ (List.mem_of_getElem? (i := 69) (by decide +kernel))) rfl
theorem kw916 : Cond.selects RX12 yX12_isOnTrail yX12_isOnTrail ∈ WS := WS_of (tm0 _ (List.mem_of_getElem? (i := 63) (by decide +kernel))) rfl
theorem kw917 : Cond.code yX12_isOnTrail cX12_isOnTrail 4 (some .boolean) ∈ WS := WS_of (tm7 _ (List.mem_of_getElem? (i := 70) rfl)) rfl
theorem kw918 : Cond.methodLink RL 86 yX11_set ∈ WS := WS_of (tm4 _ (List.mem_of_getElem? (i := 75) (by decide +kernel))) rfl
theorem kw919 : Cond.instanceMethod yX11_set ∈ WS := WS_of (tm4 _ (List.mem_of_getElem? (i := 76) (by decide +kernel))) rfl
theorem kw920 : Cond.selects RX11 yX11_set yX11_set ∈ WS := WS_of (tm4 _ (List.mem_of_getElem? (i := 77) (by decide +kernel))) rfl
theorem kw921 : Cond.code yX11_set cX11_set 8 (some .int) ∈ WS := WS_of (tm4 _ (List.mem_of_getElem? (i := 78) rfl)) rfl
theorem kw922 : Cond.methodLink RX11 197 yX11_isFewer ∈ WS := WS_of (tm4 _ (List.mem_of_getElem? (i := 79) (by decide +kernel))) rfl
theorem kw923 : Cond.static yX11_isFewer ∈ WS := WS_of (tm4 _ (List.mem_of_getElem? (i := 80) (by decide +kernel))) rfl
theorem kw924 : Cond.code yX11_isFewer cX11_isFewer 2 (some .boolean) ∈ WS := WS_of (tm4 _ (List.mem_of_getElem? (i := 81) rfl)) rfl
theorem kw925 : Cond.methodLink RL 89 yX12_set ∈ WS := WS_of (tm7 _ (List.mem_of_getElem? (i := 71) (by decide +kernel))) rfl
theorem kw926 : Cond.instanceMethod yX12_set ∈ WS := WS_of (tm7 _ (List.mem_of_getElem? (i := 72) (by decide +kernel))) rfl
theorem kw927 : Cond.selects RX12 yX12_set yX12_set ∈ WS := WS_of (tm7 _ (List.mem_of_getElem? (i := 73) (by decide +kernel))) rfl
theorem kw928 : Cond.code yX12_set cX12_set 7 (some .int) ∈ WS := WS_of (tm7 _ (List.mem_of_getElem? (i := 74) rfl)) rfl
theorem kw929 : Cond.methodLink RL 90 yX11_mend ∈ WS := WS_of (tm4 _ (List.mem_of_getElem? (i := 82) (by decide +kernel))) rfl
theorem kw930 : Cond.instanceMethod yX11_mend ∈ WS := WS_of (tm4 _ (List.mem_of_getElem? (i := 83) (by decide +kernel))) rfl
theorem kw931 : Cond.selects RX11 yX11_mend yX11_mend ∈ WS := WS_of (tm4 _ (List.mem_of_getElem? (i := 84) (by decide +kernel))) rfl
theorem kw932 : Cond.code yX11_mend cX11_mend 3 (some .int) ∈ WS := WS_of (tm4 _ (List.mem_of_getElem? (i := 85) rfl)) rfl
theorem kw933 : Cond.methodLink RX11 200 yX11_bestChange ∈ WS := WS_of (tm4 _ (List.mem_of_getElem? (i := 86) (by decide +kernel))) rfl
theorem kw934 : Cond.instanceMethod yX11_bestChange ∈ WS := WS_of (tm4 _ (List.mem_of_getElem? (i := 88) (by decide +kernel))) rfl
theorem kw935 : Cond.selects RX11 yX11_bestChange yX11_bestChange ∈ WS := WS_of (tm0 _ (List.mem_of_getElem? (i := 21) (by decide +kernel))) rfl
theorem kw936 : Cond.code yX11_bestChange cX11_bestChange 9 (some .int) ∈ WS := WS_of (tm4 _ (List.mem_of_getElem? (i := 89) rfl)) rfl
theorem kw937 : Cond.methodLink RX11 307 yX10_learnBoard ∈ WS := WS_of (tm4 _ (List.mem_of_getElem? (i := 90) (by decide +kernel))) rfl
theorem kw938 : Cond.methodLink RL 93 yX12_mend ∈ WS := WS_of (tm7 _ (List.mem_of_getElem? (i := 75) (by decide +kernel))) rfl
theorem kw939 : Cond.instanceMethod yX12_mend ∈ WS := WS_of (tm7 _ (List.mem_of_getElem? (i := 76) (by decide +kernel))) rfl
theorem kw940 : Cond.selects RX12 yX12_mend yX12_mend ∈ WS := WS_of (tm7 _ (List.mem_of_getElem? (i := 77) (by decide +kernel))) rfl
theorem kw941 : Cond.code yX12_mend cX12_mend 7 (some .int) ∈ WS := WS_of (tm7 _ (List.mem_of_getElem? (i := 78) rfl)) rfl
theorem kw942 : Cond.methodLink RL 94 yX11_away ∈ WS := WS_of (tm4 _ (List.mem_of_getElem? (i := 91) (by decide +kernel))) rfl
theorem kw943 : Cond.instanceMethod yX11_away ∈ WS := WS_of (tm4 _ (List.mem_of_getElem? (i := 92) (by decide +kernel))) rfl
theorem kw944 : Cond.selects RX11 yX11_away yX11_away ∈ WS := WS_of (tm4 _ (List.mem_of_getElem? (i := 93) (by decide +kernel))) rfl
theorem kw945 : Cond.code yX11_away cX11_away 3 (some .int) ∈ WS := WS_of (tm4 _ (List.mem_of_getElem? (i := 94) rfl)) rfl
theorem kw946 : Cond.methodLink RL 97 yX12_away ∈ WS := WS_of (tm7 _ (List.mem_of_getElem? (i := 79) (by decide +kernel))) rfl
theorem kw947 : Cond.instanceMethod yX12_away ∈ WS := WS_of (tm7 _ (List.mem_of_getElem? (i := 80) (by decide +kernel))) rfl
theorem kw948 : Cond.selects RX12 yX12_away yX12_away ∈ WS := WS_of (tm7 _ (List.mem_of_getElem? (i := 81) (by decide +kernel))) rfl
theorem kw949 : Cond.code yX12_away cX12_away 7 (some .int) ∈ WS := WS_of (tm7 _ (List.mem_of_getElem? (i := 82) rfl)) rfl
theorem kw950 : Cond.methodLink RL 98 yX11_from ∈ WS := WS_of (tm4 _ (List.mem_of_getElem? (i := 95) (by decide +kernel))) rfl
theorem kw951 : Cond.instanceMethod yX11_from ∈ WS := WS_of (tm4 _ (List.mem_of_getElem? (i := 96) (by decide +kernel))) rfl
theorem kw952 : Cond.selects RX11 yX11_from yX11_from ∈ WS := WS_of (tm4 _ (List.mem_of_getElem? (i := 97) (by decide +kernel))) rfl
theorem kw953 : Cond.code yX11_from cX11_from 5 (some .int) ∈ WS := WS_of (tm4 _ (List.mem_of_getElem? (i := 98) rfl)) rfl
theorem kw954 : Cond.methodLink RL 101 yX12_from ∈ WS := WS_of (tm7 _ (List.mem_of_getElem? (i := 83) (by decide +kernel))) rfl
theorem kw955 : Cond.instanceMethod yX12_from ∈ WS := WS_of (tm7 _ (List.mem_of_getElem? (i := 84) (by decide +kernel))) rfl
theorem kw956 : Cond.selects RX12 yX12_from yX12_from ∈ WS := WS_of (tm7 _ (List.mem_of_getElem? (i := 85) (by decide +kernel))) rfl
theorem kw957 : Cond.code yX12_from cX12_from 4 (some .int) ∈ WS := WS_of (tm7 _ (List.mem_of_getElem? (i := 86) rfl)) rfl
theorem kw958 : Cond.methodLink RL 102 yX11_deeper ∈ WS := WS_of (tm4 _ (List.mem_of_getElem? (i := 99) (by decide +kernel))) rfl
theorem kw959 : Cond.instanceMethod yX11_deeper ∈ WS := WS_of (tm4 _ (List.mem_of_getElem? (i := 100) (by decide +kernel))) rfl
theorem kw960 : Cond.selects RX11 yX11_deeper yX11_deeper ∈ WS := WS_of (tm4 _ (List.mem_of_getElem? (i := 101) (by decide +kernel))) rfl
theorem kw961 : Cond.code yX11_deeper cX11_deeper 7 (some .int) ∈ WS := WS_of (tm4 _ (List.mem_of_getElem? (i := 102) rfl)) rfl
theorem kw962 : Cond.methodLink RL 105 yX12_deeper ∈ WS := WS_of (tm7 _ (List.mem_of_getElem? (i := 87) (by decide +kernel))) rfl
theorem kw963 : Cond.instanceMethod yX12_deeper ∈ WS := WS_of (tm7 _ (List.mem_of_getElem? (i := 88) (by decide +kernel))) rfl
theorem kw964 : Cond.selects RX12 yX12_deeper yX12_deeper ∈ WS := WS_of (tm7 _ (List.mem_of_getElem? (i := 89) (by decide +kernel))) rfl
theorem kw965 : Cond.code yX12_deeper cX12_deeper 4 (some .int) ∈ WS := WS_of (tm7 _ (List.mem_of_getElem? (i := 90) rfl)) rfl
theorem kw966 : Cond.methodLink RL 106 yX11_see ∈ WS := WS_of (tm4 _ (List.mem_of_getElem? (i := 103) (by decide +kernel))) rfl
theorem kw967 : Cond.instanceMethod yX11_see ∈ WS := WS_of (tm4 _ (List.mem_of_getElem? (i := 104) (by decide +kernel))) rfl
theorem kw968 : Cond.selects RX11 yX11_see yX11_see ∈ WS := WS_of (tm4 _ (List.mem_of_getElem? (i := 105) (by decide +kernel))) rfl
theorem kw969 : Cond.code yX11_see cX11_see 5 (some .int) ∈ WS := WS_of (tm4 _ (List.mem_of_getElem? (i := 106) rfl)) rfl
theorem kw970 : Cond.fieldLink RX11 204 "OnTiptoe$House" "seenCount" "I" ∈ WS := WS_of (tm1 _ (List.mem_of_getElem? (i := 64) (by decide +kernel))) rfl
theorem kw971 : Cond.fieldLink RX11 207 "OnTiptoe$House" "seenBoard" "[I" ∈ WS := WS_of (tm1 _ (List.mem_of_getElem? (i := 58) (by decide +kernel))) rfl
theorem kw972 : Cond.fieldLink RX11 210 "OnTiptoe$House" "seenMinutes" "[I" ∈ WS := WS_of (tm1 _ (List.mem_of_getElem? (i := 60) (by decide +kernel))) rfl
theorem kw973 : Cond.fieldLink RX11 213 "OnTiptoe$House" "seenWoke" "[I" ∈ WS := WS_of (tm1 _ (List.mem_of_getElem? (i := 62) (by decide +kernel))) rfl
theorem kw974 : Cond.methodLink RL 110 yX12_see ∈ WS := WS_of (tm7 _ (List.mem_of_getElem? (i := 91) (by decide +kernel))) rfl
theorem kw975 : Cond.instanceMethod yX12_see ∈ WS := WS_of (tm7 _ (List.mem_of_getElem? (i := 92) (by decide +kernel))) rfl
theorem kw976 : Cond.selects RX12 yX12_see yX12_see ∈ WS := WS_of (tm7 _ (List.mem_of_getElem? (i := 93) (by decide +kernel))) rfl
theorem kw977 : Cond.code yX12_see cX12_see 4 (some .int) ∈ WS := WS_of (tm7 _ (List.mem_of_getElem? (i := 94) rfl)) rfl
theorem kw978 : Cond.methodLink RL 111 yX11_who ∈ WS := WS_of (tm4 _ (List.mem_of_getElem? (i := 107) (by decide +kernel))) rfl
theorem kw979 : Cond.instanceMethod yX11_who ∈ WS := WS_of (tm4 _ (List.mem_of_getElem? (i := 108) (by decide +kernel))) rfl
theorem kw980 : Cond.selects RX11 yX11_who yX11_who ∈ WS := WS_of (tm4 _ (List.mem_of_getElem? (i := 109) (by decide +kernel))) rfl
theorem kw981 : Cond.code yX11_who cX11_who 4 (some .int) ∈ WS := WS_of (tm4 _ (List.mem_of_getElem? (i := 110) rfl)) rfl
theorem kw982 : Cond.methodLink RX11 216 yX2_fitsSeen ∈ WS := WS_of (tm4 _ (List.mem_of_getElem? (i := 111) (by decide +kernel))) rfl
theorem kw983 : Cond.instanceMethod yX2_fitsSeen ∈ WS := WS_of (tm4 _ (List.mem_of_getElem? (i := 112) (by decide +kernel))) rfl
theorem kw984 : Cond.selects RX2 yX2_fitsSeen yX2_fitsSeen ∈ WS := WS_of (tm4 _ (List.mem_of_getElem? (i := 113) (by decide +kernel))) rfl
theorem kw985 : Cond.code yX2_fitsSeen cX2_fitsSeen 5 (some .boolean) ∈ WS := WS_of (tm4 _ (List.mem_of_getElem? (i := 114) rfl)) rfl
theorem kw986 : Cond.fieldLink RX2 62 "OnTiptoe$House" "seenCount" "I" ∈ WS := WS_of (tm1 _ (List.mem_of_getElem? (i := 63) (by decide +kernel))) rfl
theorem kw987 : Cond.fieldLink RX2 49 "OnTiptoe$House" "minute" "I" ∈ WS := WS_of (tm1 _ (List.mem_of_getElem? (i := 45) (by decide +kernel))) rfl
theorem kw988 : Cond.methodLink RX2 113 yX2_noise ∈ WS := WS_of (tm4 _ (List.mem_of_getElem? (i := 115) (by decide +kernel))) rfl
theorem kw989 : Cond.methodLink RX2 116 yX2_depth ∈ WS := WS_of (tm4 _ (List.mem_of_getElem? (i := 116) (by decide +kernel))) rfl
theorem kw990 : Cond.methodLink RL 114 yX12_who ∈ WS := WS_of (tm7 _ (List.mem_of_getElem? (i := 95) (by decide +kernel))) rfl
theorem kw991 : Cond.instanceMethod yX12_who ∈ WS := WS_of (tm7 _ (List.mem_of_getElem? (i := 96) (by decide +kernel))) rfl
theorem kw992 : Cond.selects RX12 yX12_who yX12_who ∈ WS := WS_of (tm7 _ (List.mem_of_getElem? (i := 97) (by decide +kernel))) rfl
theorem kw993 : Cond.code yX12_who cX12_who 5 (some .int) ∈ WS := WS_of (tm7 _ (List.mem_of_getElem? (i := 98) rfl)) rfl
theorem kw994 : Cond.methodLink RL 115 yX11_odds ∈ WS := WS_of (tm4 _ (List.mem_of_getElem? (i := 117) (by decide +kernel))) rfl
theorem kw995 : Cond.instanceMethod yX11_odds ∈ WS := WS_of (tm4 _ (List.mem_of_getElem? (i := 118) (by decide +kernel))) rfl
theorem kw996 : Cond.selects RX11 yX11_odds yX11_odds ∈ WS := WS_of (tm4 _ (List.mem_of_getElem? (i := 119) (by decide +kernel))) rfl
theorem kw997 : Cond.code yX11_odds cX11_odds 6 (some .long) ∈ WS := WS_of (tm4 _ (List.mem_of_getElem? (i := 120) rfl)) rfl
theorem kw998 : Cond.constantLong RX11 220 (-9223372036854775808) ∈ WS := WS_of (tm4 _ (List.mem_of_getElem? (i := 121) (by decide +kernel))) rfl
theorem kw999 : Cond.methodLink RX11 222 yX11_fraction ∈ WS := WS_of (tm4 _ (List.mem_of_getElem? (i := 122) (by decide +kernel))) rfl
theorem kw1000 : Cond.static yX11_fraction ∈ WS := WS_of (tm4 _ (List.mem_of_getElem? (i := 123) (by decide +kernel))) rfl
theorem kw1001 : Cond.code yX11_fraction cX11_fraction 7 (some .long) ∈ WS := WS_of (tm4 _ (List.mem_of_getElem? (i := 124) rfl)) rfl
theorem kw1002 : Cond.methodLink RL 119 yX12_odds ∈ WS := WS_of (tm7 _ (List.mem_of_getElem? (i := 99) (by decide +kernel))) rfl
theorem kw1003 : Cond.instanceMethod yX12_odds ∈ WS := WS_of (tm7 _ (List.mem_of_getElem? (i := 100) (by decide +kernel))) rfl
theorem kw1004 : Cond.selects RX12 yX12_odds yX12_odds ∈ WS := WS_of (tm7 _ (List.mem_of_getElem? (i := 101) (by decide +kernel))) rfl
theorem kw1005 : Cond.code yX12_odds cX12_odds 5 (some .long) ∈ WS := WS_of (tm7 _ (List.mem_of_getElem? (i := 102) rfl)) rfl
theorem kw1006 : Cond.constantLong RX12 372 (-9223372036854775808) ∈ WS := WS_of (tm7 _ (List.mem_of_getElem? (i := 103) (by decide +kernel))) rfl
theorem kw1007 : Cond.methodLink RX12 374 yX12_lowest ∈ WS := WS_of (tm7 _ (List.mem_of_getElem? (i := 104) (by decide +kernel))) rfl
theorem kw1008 : Cond.instanceMethod yX12_lowest ∈ WS := WS_of (tm7 _ (List.mem_of_getElem? (i := 106) (by decide +kernel))) rfl
theorem kw1009 : Cond.selects RX12 yX12_lowest yX12_lowest ∈ WS := WS_of (tm0 _ (List.mem_of_getElem? (i := 64) (by decide +kernel))) rfl
theorem kw1010 : Cond.code yX12_lowest cX12_lowest 5 (some .long) ∈ WS := WS_of (tm7 _ (List.mem_of_getElem? (i := 107) rfl)) rfl
theorem kw1011 : Cond.methodLink RX12 369 yX12_divisor ∈ WS := WS_of (tm7 _ (List.mem_of_getElem? (i := 108) (by decide +kernel))) rfl
theorem kw1012 : Cond.instanceMethod yX12_divisor ∈ WS := WS_of (tm7 _ (List.mem_of_getElem? (i := 110) (by decide +kernel))) rfl
theorem kw1013 : Cond.selects RX12 yX12_divisor yX12_divisor ∈ WS := WS_of (tm0 _ (List.mem_of_getElem? (i := 65) (by decide +kernel))) rfl
theorem kw1014 : Cond.code yX12_divisor cX12_divisor 6 (some .int) ∈ WS := WS_of (tm7 _ (List.mem_of_getElem? (i := 111) rfl)) rfl
theorem kw1015 : Cond.methodLink RL 120 yX11_mean ∈ WS := WS_of (tm4 _ (List.mem_of_getElem? (i := 125) (by decide +kernel))) rfl
theorem kw1016 : Cond.instanceMethod yX11_mean ∈ WS := WS_of (tm4 _ (List.mem_of_getElem? (i := 126) (by decide +kernel))) rfl
theorem kw1017 : Cond.selects RX11 yX11_mean yX11_mean ∈ WS := WS_of (tm4 _ (List.mem_of_getElem? (i := 127) (by decide +kernel))) rfl
theorem kw1018 : Cond.code yX11_mean cX11_mean 6 (some .long) ∈ WS := WS_of (tm4 _ (List.mem_of_getElem? (i := 128) rfl)) rfl
theorem kw1019 : Cond.methodLink RL 123 yX12_mean ∈ WS := WS_of (tm7 _ (List.mem_of_getElem? (i := 112) (by decide +kernel))) rfl
theorem kw1020 : Cond.instanceMethod yX12_mean ∈ WS := WS_of (tm7 _ (List.mem_of_getElem? (i := 113) (by decide +kernel))) rfl
theorem kw1021 : Cond.selects RX12 yX12_mean yX12_mean ∈ WS := WS_of (tm7 _ (List.mem_of_getElem? (i := 114) (by decide +kernel))) rfl
theorem kw1022 : Cond.code yX12_mean cX12_mean 5 (some .long) ∈ WS := WS_of (tm7 _ (List.mem_of_getElem? (i := 115) rfl)) rfl
theorem kw1023 : Cond.methodLink RL 124 yX11_book ∈ WS := WS_of (tm4 _ (List.mem_of_getElem? (i := 129) (by decide +kernel))) rfl
theorem kw1024 : Cond.instanceMethod yX11_book ∈ WS := WS_of (tm4 _ (List.mem_of_getElem? (i := 130) (by decide +kernel))) rfl
theorem kw1025 : Cond.selects RX11 yX11_book yX11_book ∈ WS := WS_of (tm4 _ (List.mem_of_getElem? (i := 131) (by decide +kernel))) rfl
theorem kw1026 : Cond.code yX11_book cX11_book 2 (some .int) ∈ WS := WS_of (tm4 _ (List.mem_of_getElem? (i := 132) rfl)) rfl
theorem kw1027 : Cond.fieldLink RX11 226 "OnTiptoe$House" "bookCount" "I" ∈ WS := WS_of (tm1 _ (List.mem_of_getElem? (i := 68) (by decide +kernel))) rfl
theorem kw1028 : Cond.fieldLink RX11 229 "OnTiptoe$House" "book" "[I" ∈ WS := WS_of (tm1 _ (List.mem_of_getElem? (i := 66) (by decide +kernel))) rfl
theorem kw1029 : Cond.methodLink RL 127 yX12_book ∈ WS := WS_of (tm7 _ (List.mem_of_getElem? (i := 116) (by decide +kernel))) rfl
theorem kw1030 : Cond.instanceMethod yX12_book ∈ WS := WS_of (tm7 _ (List.mem_of_getElem? (i := 117) (by decide +kernel))) rfl
theorem kw1031 : Cond.selects RX12 yX12_book yX12_book ∈ WS := WS_of (tm7 _ (List.mem_of_getElem? (i := 118) (by decide +kernel))) rfl
theorem kw1032 : Cond.code yX12_book cX12_book 2 (some .int) ∈ WS := WS_of (tm7 _ (List.mem_of_getElem? (i := 119) rfl)) rfl
theorem kw1033 : Cond.methodLink RL 128 yX11_looked ∈ WS := WS_of (tm4 _ (List.mem_of_getElem? (i := 133) (by decide +kernel))) rfl
theorem kw1034 : Cond.instanceMethod yX11_looked ∈ WS := WS_of (tm4 _ (List.mem_of_getElem? (i := 134) (by decide +kernel))) rfl
theorem kw1035 : Cond.selects RX11 yX11_looked yX11_looked ∈ WS := WS_of (tm4 _ (List.mem_of_getElem? (i := 135) (by decide +kernel))) rfl
theorem kw1036 : Cond.code yX11_looked cX11_looked 2 (some .int) ∈ WS := WS_of (tm4 _ (List.mem_of_getElem? (i := 136) rfl)) rfl
theorem kw1037 : Cond.methodLink RL 131 yX12_looked ∈ WS := WS_of (tm7 _ (List.mem_of_getElem? (i := 120) (by decide +kernel))) rfl
theorem kw1038 : Cond.instanceMethod yX12_looked ∈ WS := WS_of (tm7 _ (List.mem_of_getElem? (i := 121) (by decide +kernel))) rfl
theorem kw1039 : Cond.selects RX12 yX12_looked yX12_looked ∈ WS := WS_of (tm7 _ (List.mem_of_getElem? (i := 122) (by decide +kernel))) rfl
theorem kw1040 : Cond.code yX12_looked cX12_looked 2 (some .int) ∈ WS := WS_of (tm7 _ (List.mem_of_getElem? (i := 123) rfl)) rfl
theorem kw1041 : Cond.methodLink RL 132 yX11_judge ∈ WS := WS_of (tm4 _ (List.mem_of_getElem? (i := 137) (by decide +kernel))) rfl
theorem kw1042 : Cond.instanceMethod yX11_judge ∈ WS := WS_of (tm4 _ (List.mem_of_getElem? (i := 138) (by decide +kernel))) rfl
theorem kw1043 : Cond.selects RX11 yX11_judge yX11_judge ∈ WS := WS_of (tm4 _ (List.mem_of_getElem? (i := 139) (by decide +kernel))) rfl
theorem kw1044 : Cond.code yX11_judge cX11_judge 6 (some .int) ∈ WS := WS_of (tm4 _ (List.mem_of_getElem? (i := 140) rfl)) rfl
theorem kw1045 : Cond.methodLink RX11 235 Lib.Math.min.name ∈ WS := WS_of (tm4 _ (List.mem_of_getElem? (i := 144) (by decide +kernel))) rfl
theorem kw1046 : Cond.methodLink RX11 232 yX11_isTape ∈ WS := WS_of (tm4 _ (List.mem_of_getElem? (i := 141) (by decide +kernel))) rfl
theorem kw1047 : Cond.static yX11_isTape ∈ WS := WS_of (tm4 _ (List.mem_of_getElem? (i := 142) (by decide +kernel))) rfl
theorem kw1048 : Cond.code yX11_isTape cX11_isTape 1 (some .boolean) ∈ WS := WS_of (tm4 _ (List.mem_of_getElem? (i := 143) rfl)) rfl
theorem kw1049 : Cond.methodLink RL 135 yX12_judge ∈ WS := WS_of (tm7 _ (List.mem_of_getElem? (i := 124) (by decide +kernel))) rfl
theorem kw1050 : Cond.instanceMethod yX12_judge ∈ WS := WS_of (tm7 _ (List.mem_of_getElem? (i := 125) (by decide +kernel))) rfl
theorem kw1051 : Cond.selects RX12 yX12_judge yX12_judge ∈ WS := WS_of (tm7 _ (List.mem_of_getElem? (i := 126) (by decide +kernel))) rfl
theorem kw1052 : Cond.code yX12_judge cX12_judge 4 (some .int) ∈ WS := WS_of (tm7 _ (List.mem_of_getElem? (i := 127) rfl)) rfl
theorem kw1053 : Cond.methodLink RX12 378 yX12_isTape ∈ WS := WS_of (tm7 _ (List.mem_of_getElem? (i := 128) (by decide +kernel))) rfl
theorem kw1054 : Cond.instanceMethod yX12_isTape ∈ WS := WS_of (tm7 _ (List.mem_of_getElem? (i := 130) (by decide +kernel))) rfl
theorem kw1055 : Cond.selects RX12 yX12_isTape yX12_isTape ∈ WS := WS_of (tm0 _ (List.mem_of_getElem? (i := 66) (by decide +kernel))) rfl
theorem kw1056 : Cond.code yX12_isTape cX12_isTape 2 (some .boolean) ∈ WS := WS_of (tm7 _ (List.mem_of_getElem? (i := 131) rfl)) rfl
theorem kw1057 : Cond.methodLink RL 136 yX11_image ∈ WS := WS_of (tm4 _ (List.mem_of_getElem? (i := 145) (by decide +kernel))) rfl
theorem kw1058 : Cond.instanceMethod yX11_image ∈ WS := WS_of (tm4 _ (List.mem_of_getElem? (i := 146) (by decide +kernel))) rfl
theorem kw1059 : Cond.selects RX11 yX11_image yX11_image ∈ WS := WS_of (tm4 _ (List.mem_of_getElem? (i := 147) (by decide +kernel))) rfl
theorem kw1060 : Cond.code yX11_image cX11_image 3 (some .int) ∈ WS := WS_of (tm4 _ (List.mem_of_getElem? (i := 148) rfl)) rfl
theorem kw1061 : Cond.fieldLink RX11 242 "OnTiptoe" "imageTaken" "Z" ∈ WS := WS_of (tm1 _ (List.mem_of_getElem? (i := 204) (by decide +kernel))) rfl
theorem kw1062 : Cond.methodLink RX11 238 yX2_takeFrom ∈ WS := WS_of (tm4 _ (List.mem_of_getElem? (i := 149) (by decide +kernel))) rfl
theorem kw1063 : Cond.instanceMethod yX2_takeFrom ∈ WS := WS_of (tm4 _ (List.mem_of_getElem? (i := 150) (by decide +kernel))) rfl
theorem kw1064 : Cond.selects RX2 yX2_takeFrom yX2_takeFrom ∈ WS := WS_of (tm4 _ (List.mem_of_getElem? (i := 151) (by decide +kernel))) rfl
theorem kw1065 : Cond.code yX2_takeFrom cX2_takeFrom 2 none ∈ WS := WS_of (tm4 _ (List.mem_of_getElem? (i := 152) rfl)) rfl
theorem kw1066 : Cond.methodLink RX2 37 arraycopyName ∈ WS := WS_of (tm4 _ (List.mem_of_getElem? (i := 153) (by decide +kernel))) rfl
theorem kw1067 : Cond.native arraycopyName ∈ WS := WS_of (tm4 _ (List.mem_of_getElem? (i := 155) (by decide +kernel))) rfl
theorem kw1068 : Cond.static arraycopyName ∈ WS := WS_of (tm4 _ (List.mem_of_getElem? (i := 154) (by decide +kernel))) rfl
theorem kw1069 : Cond.initialized "java/lang/System" ∈ WS := WS_of (tm1 _ (List.mem_of_getElem? (i := 20) (by decide +kernel))) rfl
theorem kw1070 : Cond.fieldLink RX2 46 "OnTiptoe$House" "walkerCount" "I" ∈ WS := WS_of (tm1 _ (List.mem_of_getElem? (i := 43) (by decide +kernel))) rfl
theorem kw1071 : Cond.fieldLink RX2 52 "OnTiptoe$House" "stirs" "I" ∈ WS := WS_of (tm1 _ (List.mem_of_getElem? (i := 47) (by decide +kernel))) rfl
theorem kw1072 : Cond.fieldLink RX2 55 "OnTiptoe$House" "awake" "Z" ∈ WS := WS_of (tm1 _ (List.mem_of_getElem? (i := 49) (by decide +kernel))) rfl
theorem kw1073 : Cond.fieldLink RX2 59 "OnTiptoe$House" "wayCount" "I" ∈ WS := WS_of (tm1 _ (List.mem_of_getElem? (i := 54) (by decide +kernel))) rfl
theorem kw1074 : Cond.fieldLink RX2 65 "OnTiptoe$House" "bookCount" "I" ∈ WS := WS_of (tm1 _ (List.mem_of_getElem? (i := 67) (by decide +kernel))) rfl
theorem kw1075 : Cond.methodLink RX11 245 ⟨"OnTiptoe$Walker", "keep", "()V"⟩ ∈ WS := WS_of (tm4 _ (List.mem_of_getElem? (i := 156) (by decide +kernel))) rfl
theorem kw1076 : Cond.sameMethod "OnTiptoe$Walker" "OnTiptoe$Walker" "keep" "()V" ∈ WS := WS_of (tm4 _ (List.mem_of_getElem? (i := 159) (by decide +kernel))) rfl
theorem kw1077 : Cond.selects RX0 ⟨"OnTiptoe$Walker", "keep", "()V"⟩ yX9_keep ∈ WS := WS_of (tm4 _ (List.mem_of_getElem? (i := 160) (by decide +kernel))) rfl
theorem kw1078 : Cond.instanceMethod yX9_keep ∈ WS := WS_of (tm4 _ (List.mem_of_getElem? (i := 157) (by decide +kernel))) rfl
theorem kw1079 : Cond.code yX9_keep cX9_keep 1 none ∈ WS := WS_of (tm4 _ (List.mem_of_getElem? (i := 172) rfl)) rfl
theorem kw1080 : Cond.fieldLink RX9 25 "OnTiptoe$Walker" "keptBoard" "I" ∈ WS := WS_of (tm2 _ (List.mem_of_getElem? (i := 50) (by decide +kernel))) rfl
theorem kw1081 : Cond.selects RX1 ⟨"OnTiptoe$Walker", "keep", "()V"⟩ yX9_keep ∈ WS := WS_of (tm4 _ (List.mem_of_getElem? (i := 161) (by decide +kernel))) rfl
theorem kw1082 : Cond.selects RX5 ⟨"OnTiptoe$Walker", "keep", "()V"⟩ yX9_keep ∈ WS := WS_of (tm4 _ (List.mem_of_getElem? (i := 162) (by decide +kernel))) rfl
theorem kw1083 : Cond.selects RX6 ⟨"OnTiptoe$Walker", "keep", "()V"⟩ yX9_keep ∈ WS := WS_of (tm4 _ (List.mem_of_getElem? (i := 163) (by decide +kernel))) rfl
theorem kw1084 : Cond.selects RX7 ⟨"OnTiptoe$Walker", "keep", "()V"⟩ yX9_keep ∈ WS := WS_of (tm4 _ (List.mem_of_getElem? (i := 164) (by decide +kernel))) rfl
theorem kw1085 : Cond.instanceMethod ⟨"OnTiptoe$Walker", "keep", "()V"⟩ ∈ WS := WS_of (tm4 _ (List.mem_of_getElem? (i := 157) (by decide +kernel))) rfl
theorem kw1086 : Cond.selects RX8 ⟨"OnTiptoe$Walker", "keep", "()V"⟩ yX8_keep ∈ WS := WS_of (tm4 _ (List.mem_of_getElem? (i := 165) (by decide +kernel))) rfl
theorem kw1087 : Cond.instanceMethod yX8_keep ∈ WS := WS_of (tm4 _ (List.mem_of_getElem? (i := 166) (by decide +kernel))) rfl
theorem kw1088 : Cond.code yX8_keep cX8_keep 1 none ∈ WS := WS_of (tm4 _ (List.mem_of_getElem? (i := 167) rfl)) rfl
theorem kw1089 : Cond.methodLink RX8 29 arraycopyName ∈ WS := WS_of (tm4 _ (List.mem_of_getElem? (i := 171) (by decide +kernel))) rfl
theorem kw1090 : Cond.methodLink RX11 245 yX9_keep ∈ WS := WS_of (tm4 _ (List.mem_of_getElem? (i := 156) (by decide +kernel))) rfl
theorem kw1091 : Cond.selects RX9 yX9_keep yX9_keep ∈ WS := WS_of (tm4 _ (List.mem_of_getElem? (i := 158) (by decide +kernel))) rfl
theorem kw1092 : Cond.methodLink RL 139 yX12_image ∈ WS := WS_of (tm7 _ (List.mem_of_getElem? (i := 132) (by decide +kernel))) rfl
theorem kw1093 : Cond.instanceMethod yX12_image ∈ WS := WS_of (tm7 _ (List.mem_of_getElem? (i := 133) (by decide +kernel))) rfl
theorem kw1094 : Cond.selects RX12 yX12_image yX12_image ∈ WS := WS_of (tm7 _ (List.mem_of_getElem? (i := 134) (by decide +kernel))) rfl
theorem kw1095 : Cond.code yX12_image cX12_image 2 (some .int) ∈ WS := WS_of (tm7 _ (List.mem_of_getElem? (i := 135) rfl)) rfl
theorem kw1096 : Cond.methodLink RL 140 yX11_undo ∈ WS := WS_of (tm4 _ (List.mem_of_getElem? (i := 173) (by decide +kernel))) rfl
theorem kw1097 : Cond.instanceMethod yX11_undo ∈ WS := WS_of (tm4 _ (List.mem_of_getElem? (i := 174) (by decide +kernel))) rfl
theorem kw1098 : Cond.selects RX11 yX11_undo yX11_undo ∈ WS := WS_of (tm4 _ (List.mem_of_getElem? (i := 175) (by decide +kernel))) rfl
theorem kw1099 : Cond.code yX11_undo cX11_undo 3 (some .int) ∈ WS := WS_of (tm4 _ (List.mem_of_getElem? (i := 176) rfl)) rfl
theorem kw1100 : Cond.methodLink RX11 248 ⟨"OnTiptoe$Walker", "goBack", "()V"⟩ ∈ WS := WS_of (tm4 _ (List.mem_of_getElem? (i := 177) (by decide +kernel))) rfl
theorem kw1101 : Cond.sameMethod "OnTiptoe$Walker" "OnTiptoe$Walker" "goBack" "()V" ∈ WS := WS_of (tm4 _ (List.mem_of_getElem? (i := 180) (by decide +kernel))) rfl
theorem kw1102 : Cond.selects RX0 ⟨"OnTiptoe$Walker", "goBack", "()V"⟩ yX9_goBack ∈ WS := WS_of (tm4 _ (List.mem_of_getElem? (i := 181) (by decide +kernel))) rfl
theorem kw1103 : Cond.instanceMethod yX9_goBack ∈ WS := WS_of (tm4 _ (List.mem_of_getElem? (i := 178) (by decide +kernel))) rfl
theorem kw1104 : Cond.code yX9_goBack cX9_goBack 1 none ∈ WS := WS_of (tm4 _ (List.mem_of_getElem? (i := 192) rfl)) rfl
theorem kw1105 : Cond.selects RX1 ⟨"OnTiptoe$Walker", "goBack", "()V"⟩ yX9_goBack ∈ WS := WS_of (tm4 _ (List.mem_of_getElem? (i := 182) (by decide +kernel))) rfl
theorem kw1106 : Cond.selects RX5 ⟨"OnTiptoe$Walker", "goBack", "()V"⟩ yX9_goBack ∈ WS := WS_of (tm4 _ (List.mem_of_getElem? (i := 183) (by decide +kernel))) rfl
theorem kw1107 : Cond.selects RX6 ⟨"OnTiptoe$Walker", "goBack", "()V"⟩ yX9_goBack ∈ WS := WS_of (tm4 _ (List.mem_of_getElem? (i := 184) (by decide +kernel))) rfl
theorem kw1108 : Cond.selects RX7 ⟨"OnTiptoe$Walker", "goBack", "()V"⟩ yX9_goBack ∈ WS := WS_of (tm4 _ (List.mem_of_getElem? (i := 185) (by decide +kernel))) rfl
theorem kw1109 : Cond.instanceMethod ⟨"OnTiptoe$Walker", "goBack", "()V"⟩ ∈ WS := WS_of (tm4 _ (List.mem_of_getElem? (i := 178) (by decide +kernel))) rfl
theorem kw1110 : Cond.selects RX8 ⟨"OnTiptoe$Walker", "goBack", "()V"⟩ yX8_goBack ∈ WS := WS_of (tm4 _ (List.mem_of_getElem? (i := 186) (by decide +kernel))) rfl
theorem kw1111 : Cond.instanceMethod yX8_goBack ∈ WS := WS_of (tm4 _ (List.mem_of_getElem? (i := 187) (by decide +kernel))) rfl
theorem kw1112 : Cond.code yX8_goBack cX8_goBack 1 none ∈ WS := WS_of (tm4 _ (List.mem_of_getElem? (i := 188) rfl)) rfl
theorem kw1113 : Cond.methodLink RX11 248 yX9_goBack ∈ WS := WS_of (tm4 _ (List.mem_of_getElem? (i := 177) (by decide +kernel))) rfl
theorem kw1114 : Cond.selects RX9 yX9_goBack yX9_goBack ∈ WS := WS_of (tm4 _ (List.mem_of_getElem? (i := 179) (by decide +kernel))) rfl
theorem kw1115 : Cond.methodLink RL 143 yX12_undo ∈ WS := WS_of (tm7 _ (List.mem_of_getElem? (i := 136) (by decide +kernel))) rfl
theorem kw1116 : Cond.instanceMethod yX12_undo ∈ WS := WS_of (tm7 _ (List.mem_of_getElem? (i := 137) (by decide +kernel))) rfl
theorem kw1117 : Cond.selects RX12 yX12_undo yX12_undo ∈ WS := WS_of (tm7 _ (List.mem_of_getElem? (i := 138) (by decide +kernel))) rfl
theorem kw1118 : Cond.code yX12_undo cX12_undo 2 (some .int) ∈ WS := WS_of (tm7 _ (List.mem_of_getElem? (i := 139) rfl)) rfl
theorem kw1119 : Cond.methodLink RL 144 yX11_act ∈ WS := WS_of (tm4 _ (List.mem_of_getElem? (i := 193) (by decide +kernel))) rfl
theorem kw1120 : Cond.instanceMethod yX11_act ∈ WS := WS_of (tm4 _ (List.mem_of_getElem? (i := 194) (by decide +kernel))) rfl
theorem kw1121 : Cond.selects RX11 yX11_act yX11_act ∈ WS := WS_of (tm4 _ (List.mem_of_getElem? (i := 195) (by decide +kernel))) rfl
theorem kw1122 : Cond.code yX11_act cX11_act 5 (some .int) ∈ WS := WS_of (tm4 _ (List.mem_of_getElem? (i := 196) rfl)) rfl
theorem kw1123 : Cond.fieldLink RX11 251 "OnTiptoe" "actor" "LOnTiptoe$Walker;" ∈ WS := WS_of (tm1 _ (List.mem_of_getElem? (i := 210) (by decide +kernel))) rfl
theorem kw1124 : Cond.fieldLink RX11 255 "OnTiptoe$Walker" "ranCount" "I" ∈ WS := WS_of (tm2 _ (List.mem_of_getElem? (i := 54) (by decide +kernel))) rfl
theorem kw1125 : Cond.methodLink RX11 258 ⟨"OnTiptoe$Walker", "actTreads", "(I)I"⟩ ∈ WS := WS_of (tm4 _ (List.mem_of_getElem? (i := 197) (by decide +kernel))) rfl
theorem kw1126 : Cond.sameMethod "OnTiptoe$Walker" "OnTiptoe$Walker" "actTreads" "(I)I" ∈ WS := WS_of (tm4 _ (List.mem_of_getElem? (i := 200) (by decide +kernel))) rfl
theorem kw1127 : Cond.instanceMethod ⟨"OnTiptoe$Walker", "actTreads", "(I)I"⟩ ∈ WS := WS_of (tm4 _ (List.mem_of_getElem? (i := 198) (by decide +kernel))) rfl
theorem kw1128 : Cond.selects RX0 ⟨"OnTiptoe$Walker", "actTreads", "(I)I"⟩ yX6_actTreads ∈ WS := WS_of (tm4 _ (List.mem_of_getElem? (i := 201) (by decide +kernel))) rfl
theorem kw1129 : Cond.instanceMethod yX6_actTreads ∈ WS := WS_of (tm4 _ (List.mem_of_getElem? (i := 202) (by decide +kernel))) rfl
theorem kw1130 : Cond.code yX6_actTreads cX6_actTreads 2 (some .int) ∈ WS := WS_of (tm4 _ (List.mem_of_getElem? (i := 203) rfl)) rfl
theorem kw1131 : Cond.methodLink RX6 7 ⟨"OnTiptoe$Soft", "begin", "(I)V"⟩ ∈ WS := WS_of (tm4 _ (List.mem_of_getElem? (i := 204) (by decide +kernel))) rfl
theorem kw1132 : Cond.sameMethod "OnTiptoe$Soft" "OnTiptoe$Walker" "begin" "(I)V" ∈ WS := WS_of (tm4 _ (List.mem_of_getElem? (i := 205) (by decide +kernel))) rfl
theorem kw1133 : Cond.selects RX0 ⟨"OnTiptoe$Soft", "begin", "(I)V"⟩ yX9_begin ∈ WS := WS_of (tm4 _ (List.mem_of_getElem? (i := 207) (by decide +kernel))) rfl
theorem kw1134 : Cond.instanceMethod yX9_begin ∈ WS := WS_of (tm4 _ (List.mem_of_getElem? (i := 209) (by decide +kernel))) rfl
theorem kw1135 : Cond.code yX9_begin cX9_begin 2 none ∈ WS := WS_of (tm4 _ (List.mem_of_getElem? (i := 210) rfl)) rfl
theorem kw1136 : Cond.fieldLink RX9 28 "OnTiptoe$Walker" "ranCount" "I" ∈ WS := WS_of (tm2 _ (List.mem_of_getElem? (i := 53) (by decide +kernel))) rfl
theorem kw1137 : Cond.selects RX6 ⟨"OnTiptoe$Soft", "begin", "(I)V"⟩ yX9_begin ∈ WS := WS_of (tm4 _ (List.mem_of_getElem? (i := 208) (by decide +kernel))) rfl
theorem kw1138 : Cond.methodLink RX6 13 yX9_actTreads ∈ WS := WS_of (tm4 _ (List.mem_of_getElem? (i := 211) (by decide +kernel))) rfl
theorem kw1139 : Cond.superclass RX6 RX9 ∈ WS := WS_of (tm2 _ (List.mem_of_getElem? (i := 80) (by decide +kernel))) rfl
theorem kw1140 : Cond.instanceMethod yX9_actTreads ∈ WS := WS_of (tm4 _ (List.mem_of_getElem? (i := 198) (by decide +kernel))) rfl
theorem kw1141 : Cond.code yX9_actTreads cX9_actTreads 2 (some .int) ∈ WS := WS_of (tm4 _ (List.mem_of_getElem? (i := 232) rfl)) rfl
theorem kw1142 : Cond.methodLink RX9 31 ⟨"OnTiptoe$Walker", "begin", "(I)V"⟩ ∈ WS := WS_of (tm4 _ (List.mem_of_getElem? (i := 233) (by decide +kernel))) rfl
theorem kw1143 : Cond.sameMethod "OnTiptoe$Walker" "OnTiptoe$Walker" "begin" "(I)V" ∈ WS := WS_of (tm7 _ (List.mem_of_getElem? (i := 212) (by decide +kernel))) rfl
theorem kw1144 : Cond.selects RX0 ⟨"OnTiptoe$Walker", "begin", "(I)V"⟩ yX9_begin ∈ WS := WS_of (tm7 _ (List.mem_of_getElem? (i := 213) (by decide +kernel))) rfl
theorem kw1145 : Cond.selects RX1 ⟨"OnTiptoe$Walker", "begin", "(I)V"⟩ yX9_begin ∈ WS := WS_of (tm7 _ (List.mem_of_getElem? (i := 214) (by decide +kernel))) rfl
theorem kw1146 : Cond.selects RX5 ⟨"OnTiptoe$Walker", "begin", "(I)V"⟩ yX9_begin ∈ WS := WS_of (tm7 _ (List.mem_of_getElem? (i := 215) (by decide +kernel))) rfl
theorem kw1147 : Cond.selects RX6 ⟨"OnTiptoe$Walker", "begin", "(I)V"⟩ yX9_begin ∈ WS := WS_of (tm7 _ (List.mem_of_getElem? (i := 216) (by decide +kernel))) rfl
theorem kw1148 : Cond.selects RX7 ⟨"OnTiptoe$Walker", "begin", "(I)V"⟩ yX9_begin ∈ WS := WS_of (tm7 _ (List.mem_of_getElem? (i := 217) (by decide +kernel))) rfl
theorem kw1149 : Cond.selects RX8 ⟨"OnTiptoe$Walker", "begin", "(I)V"⟩ yX9_begin ∈ WS := WS_of (tm7 _ (List.mem_of_getElem? (i := 218) (by decide +kernel))) rfl
theorem kw1150 : Cond.methodLink RX9 31 yX9_begin ∈ WS := WS_of (tm4 _ (List.mem_of_getElem? (i := 233) (by decide +kernel))) rfl
theorem kw1151 : Cond.selects RX9 yX9_begin yX9_begin ∈ WS := WS_of (tm7 _ (List.mem_of_getElem? (i := 219) (by decide +kernel))) rfl
theorem kw1152 : Cond.selects RX1 ⟨"OnTiptoe$Walker", "actTreads", "(I)I"⟩ yX9_actTreads ∈ WS := WS_of (tm4 _ (List.mem_of_getElem? (i := 212) (by decide +kernel))) rfl
theorem kw1153 : Cond.selects RX5 ⟨"OnTiptoe$Walker", "actTreads", "(I)I"⟩ yX9_actTreads ∈ WS := WS_of (tm4 _ (List.mem_of_getElem? (i := 213) (by decide +kernel))) rfl
theorem kw1154 : Cond.selects RX6 ⟨"OnTiptoe$Walker", "actTreads", "(I)I"⟩ yX6_actTreads ∈ WS := WS_of (tm4 _ (List.mem_of_getElem? (i := 214) (by decide +kernel))) rfl
theorem kw1155 : Cond.selects RX7 ⟨"OnTiptoe$Walker", "actTreads", "(I)I"⟩ yX7_actTreads ∈ WS := WS_of (tm4 _ (List.mem_of_getElem? (i := 215) (by decide +kernel))) rfl
theorem kw1156 : Cond.instanceMethod yX7_actTreads ∈ WS := WS_of (tm4 _ (List.mem_of_getElem? (i := 216) (by decide +kernel))) rfl
theorem kw1157 : Cond.code yX7_actTreads cX7_actTreads 2 (some .int) ∈ WS := WS_of (tm4 _ (List.mem_of_getElem? (i := 217) rfl)) rfl
theorem kw1158 : Cond.methodLink RX7 11 ⟨"OnTiptoe$Tired", "begin", "(I)V"⟩ ∈ WS := WS_of (tm4 _ (List.mem_of_getElem? (i := 218) (by decide +kernel))) rfl
theorem kw1159 : Cond.sameMethod "OnTiptoe$Tired" "OnTiptoe$Walker" "begin" "(I)V" ∈ WS := WS_of (tm4 _ (List.mem_of_getElem? (i := 219) (by decide +kernel))) rfl
theorem kw1160 : Cond.selects RX7 ⟨"OnTiptoe$Tired", "begin", "(I)V"⟩ yX9_begin ∈ WS := WS_of (tm4 _ (List.mem_of_getElem? (i := 220) (by decide +kernel))) rfl
theorem kw1161 : Cond.selects RX8 ⟨"OnTiptoe$Walker", "actTreads", "(I)I"⟩ yX8_actTreads ∈ WS := WS_of (tm4 _ (List.mem_of_getElem? (i := 224) (by decide +kernel))) rfl
theorem kw1162 : Cond.instanceMethod yX8_actTreads ∈ WS := WS_of (tm4 _ (List.mem_of_getElem? (i := 225) (by decide +kernel))) rfl
theorem kw1163 : Cond.code yX8_actTreads cX8_actTreads 2 (some .int) ∈ WS := WS_of (tm4 _ (List.mem_of_getElem? (i := 226) rfl)) rfl
theorem kw1164 : Cond.fieldLink RX8 49 "OnTiptoe$Told" "v" "I" ∈ WS := WS_of (tm2 _ (List.mem_of_getElem? (i := 46) (by decide +kernel))) rfl
theorem kw1165 : Cond.sameField "OnTiptoe$Told" "OnTiptoe$Walker" "v" "I" ∈ WS := WS_of (tm2 _ (List.mem_of_getElem? (i := 47) (by decide +kernel))) rfl
theorem kw1166 : Cond.methodLink RX8 38 ⟨"OnTiptoe$Told", "begin", "(I)V"⟩ ∈ WS := WS_of (tm4 _ (List.mem_of_getElem? (i := 227) (by decide +kernel))) rfl
theorem kw1167 : Cond.sameMethod "OnTiptoe$Told" "OnTiptoe$Walker" "begin" "(I)V" ∈ WS := WS_of (tm4 _ (List.mem_of_getElem? (i := 228) (by decide +kernel))) rfl
theorem kw1168 : Cond.selects RX8 ⟨"OnTiptoe$Told", "begin", "(I)V"⟩ yX9_begin ∈ WS := WS_of (tm4 _ (List.mem_of_getElem? (i := 229) (by decide +kernel))) rfl
theorem kw1169 : Cond.methodLink RX11 258 yX9_actTreads ∈ WS := WS_of (tm4 _ (List.mem_of_getElem? (i := 197) (by decide +kernel))) rfl
theorem kw1170 : Cond.selects RX9 yX9_actTreads yX9_actTreads ∈ WS := WS_of (tm4 _ (List.mem_of_getElem? (i := 199) (by decide +kernel))) rfl
theorem kw1171 : Cond.methodLink RX11 261 ⟨"OnTiptoe$Walker", "actGoes", "(I)I"⟩ ∈ WS := WS_of (tm4 _ (List.mem_of_getElem? (i := 234) (by decide +kernel))) rfl
theorem kw1172 : Cond.sameMethod "OnTiptoe$Walker" "OnTiptoe$Walker" "actGoes" "(I)I" ∈ WS := WS_of (tm4 _ (List.mem_of_getElem? (i := 237) (by decide +kernel))) rfl
theorem kw1173 : Cond.selects RX0 ⟨"OnTiptoe$Walker", "actGoes", "(I)I"⟩ yX9_actGoes ∈ WS := WS_of (tm4 _ (List.mem_of_getElem? (i := 238) (by decide +kernel))) rfl
theorem kw1174 : Cond.instanceMethod yX9_actGoes ∈ WS := WS_of (tm4 _ (List.mem_of_getElem? (i := 235) (by decide +kernel))) rfl
theorem kw1175 : Cond.code yX9_actGoes cX9_actGoes 2 (some .int) ∈ WS := WS_of (tm5 _ (List.mem_of_getElem? (i := 19) rfl)) rfl
theorem kw1176 : Cond.methodLink RX9 35 ⟨"OnTiptoe$Walker", "actTreads", "(I)I"⟩ ∈ WS := WS_of (tm5 _ (List.mem_of_getElem? (i := 20) (by decide +kernel))) rfl
theorem kw1177 : Cond.methodLink RX9 35 yX9_actTreads ∈ WS := WS_of (tm5 _ (List.mem_of_getElem? (i := 20) (by decide +kernel))) rfl
theorem kw1178 : Cond.instanceMethod ⟨"OnTiptoe$Walker", "actGoes", "(I)I"⟩ ∈ WS := WS_of (tm4 _ (List.mem_of_getElem? (i := 235) (by decide +kernel))) rfl
theorem kw1179 : Cond.selects RX1 ⟨"OnTiptoe$Walker", "actGoes", "(I)I"⟩ yX1_actGoes ∈ WS := WS_of (tm4 _ (List.mem_of_getElem? (i := 239) (by decide +kernel))) rfl
theorem kw1180 : Cond.instanceMethod yX1_actGoes ∈ WS := WS_of (tm5 _ (List.mem_of_getElem? (i := 0) (by decide +kernel))) rfl
theorem kw1181 : Cond.code yX1_actGoes cX1_actGoes 2 (some .int) ∈ WS := WS_of (tm5 _ (List.mem_of_getElem? (i := 1) rfl)) rfl
theorem kw1182 : Cond.methodLink RX1 13 ⟨"OnTiptoe$Heavy", "begin", "(I)V"⟩ ∈ WS := WS_of (tm5 _ (List.mem_of_getElem? (i := 2) (by decide +kernel))) rfl
theorem kw1183 : Cond.sameMethod "OnTiptoe$Heavy" "OnTiptoe$Walker" "begin" "(I)V" ∈ WS := WS_of (tm5 _ (List.mem_of_getElem? (i := 3) (by decide +kernel))) rfl
theorem kw1184 : Cond.selects RX1 ⟨"OnTiptoe$Heavy", "begin", "(I)V"⟩ yX9_begin ∈ WS := WS_of (tm5 _ (List.mem_of_getElem? (i := 4) (by decide +kernel))) rfl
theorem kw1185 : Cond.selects RX7 ⟨"OnTiptoe$Heavy", "begin", "(I)V"⟩ yX9_begin ∈ WS := WS_of (tm5 _ (List.mem_of_getElem? (i := 5) (by decide +kernel))) rfl
theorem kw1186 : Cond.methodLink RX1 17 yX9_actGoes ∈ WS := WS_of (tm5 _ (List.mem_of_getElem? (i := 6) (by decide +kernel))) rfl
theorem kw1187 : Cond.superclass RX1 RX9 ∈ WS := WS_of (tm2 _ (List.mem_of_getElem? (i := 67) (by decide +kernel))) rfl
theorem kw1188 : Cond.selects RX5 ⟨"OnTiptoe$Walker", "actGoes", "(I)I"⟩ yX9_actGoes ∈ WS := WS_of (tm5 _ (List.mem_of_getElem? (i := 7) (by decide +kernel))) rfl
theorem kw1189 : Cond.selects RX6 ⟨"OnTiptoe$Walker", "actGoes", "(I)I"⟩ yX9_actGoes ∈ WS := WS_of (tm5 _ (List.mem_of_getElem? (i := 8) (by decide +kernel))) rfl
theorem kw1190 : Cond.selects RX7 ⟨"OnTiptoe$Walker", "actGoes", "(I)I"⟩ yX7_actGoes ∈ WS := WS_of (tm5 _ (List.mem_of_getElem? (i := 9) (by decide +kernel))) rfl
theorem kw1191 : Cond.instanceMethod yX7_actGoes ∈ WS := WS_of (tm5 _ (List.mem_of_getElem? (i := 10) (by decide +kernel))) rfl
theorem kw1192 : Cond.code yX7_actGoes cX7_actGoes 2 (some .int) ∈ WS := WS_of (tm5 _ (List.mem_of_getElem? (i := 11) rfl)) rfl
theorem kw1193 : Cond.methodLink RX7 21 yX1_actGoes ∈ WS := WS_of (tm5 _ (List.mem_of_getElem? (i := 12) (by decide +kernel))) rfl
theorem kw1194 : Cond.sameMethod "OnTiptoe$Heavy" "OnTiptoe$Heavy" "actGoes" "(I)I" ∈ WS := WS_of (tm7 _ (List.mem_of_getElem? (i := 220) (by decide +kernel))) rfl
theorem kw1195 : Cond.selects RX8 ⟨"OnTiptoe$Walker", "actGoes", "(I)I"⟩ yX8_actGoes ∈ WS := WS_of (tm5 _ (List.mem_of_getElem? (i := 13) (by decide +kernel))) rfl
theorem kw1196 : Cond.instanceMethod yX8_actGoes ∈ WS := WS_of (tm5 _ (List.mem_of_getElem? (i := 14) (by decide +kernel))) rfl
theorem kw1197 : Cond.code yX8_actGoes cX8_actGoes 2 (some .int) ∈ WS := WS_of (tm5 _ (List.mem_of_getElem? (i := 15) rfl)) rfl
theorem kw1198 : Cond.methodLink RX11 261 yX9_actGoes ∈ WS := WS_of (tm4 _ (List.mem_of_getElem? (i := 234) (by decide +kernel))) rfl
theorem kw1199 : Cond.selects RX9 yX9_actGoes yX9_actGoes ∈ WS := WS_of (tm4 _ (List.mem_of_getElem? (i := 236) (by decide +kernel))) rfl
theorem kw1200 : Cond.methodLink RX11 264 ⟨"OnTiptoe$Walker", "actTells", "(I)I"⟩ ∈ WS := WS_of (tm5 _ (List.mem_of_getElem? (i := 21) (by decide +kernel))) rfl
theorem kw1201 : Cond.sameMethod "OnTiptoe$Walker" "OnTiptoe$Walker" "actTells" "(I)I" ∈ WS := WS_of (tm5 _ (List.mem_of_getElem? (i := 24) (by decide +kernel))) rfl
theorem kw1202 : Cond.instanceMethod ⟨"OnTiptoe$Walker", "actTells", "(I)I"⟩ ∈ WS := WS_of (tm5 _ (List.mem_of_getElem? (i := 22) (by decide +kernel))) rfl
theorem kw1203 : Cond.selects RX0 ⟨"OnTiptoe$Walker", "actTells", "(I)I"⟩ yX0_actTells ∈ WS := WS_of (tm5 _ (List.mem_of_getElem? (i := 25) (by decide +kernel))) rfl
theorem kw1204 : Cond.instanceMethod yX0_actTells ∈ WS := WS_of (tm5 _ (List.mem_of_getElem? (i := 26) (by decide +kernel))) rfl
theorem kw1205 : Cond.code yX0_actTells cX0_actTells 2 (some .int) ∈ WS := WS_of (tm5 _ (List.mem_of_getElem? (i := 27) rfl)) rfl
theorem kw1206 : Cond.fieldLink RX0 21 "OnTiptoe$Bare" "number" "I" ∈ WS := WS_of (tm2 _ (List.mem_of_getElem? (i := 38) (by decide +kernel))) rfl
theorem kw1207 : Cond.sameField "OnTiptoe$Bare" "OnTiptoe$Walker" "number" "I" ∈ WS := WS_of (tm2 _ (List.mem_of_getElem? (i := 39) (by decide +kernel))) rfl
theorem kw1208 : Cond.methodLink RX0 17 ⟨"OnTiptoe$Bare", "begin", "(I)V"⟩ ∈ WS := WS_of (tm5 _ (List.mem_of_getElem? (i := 28) (by decide +kernel))) rfl
theorem kw1209 : Cond.sameMethod "OnTiptoe$Bare" "OnTiptoe$Walker" "begin" "(I)V" ∈ WS := WS_of (tm5 _ (List.mem_of_getElem? (i := 29) (by decide +kernel))) rfl
theorem kw1210 : Cond.selects RX0 ⟨"OnTiptoe$Bare", "begin", "(I)V"⟩ yX9_begin ∈ WS := WS_of (tm5 _ (List.mem_of_getElem? (i := 30) (by decide +kernel))) rfl
theorem kw1211 : Cond.code yX9_actTells cX9_actTells 2 (some .int) ∈ WS := WS_of (tm5 _ (List.mem_of_getElem? (i := 49) rfl)) rfl
theorem kw1212 : Cond.selects RX1 ⟨"OnTiptoe$Walker", "actTells", "(I)I"⟩ yX9_actTells ∈ WS := WS_of (tm5 _ (List.mem_of_getElem? (i := 34) (by decide +kernel))) rfl
theorem kw1213 : Cond.instanceMethod yX9_actTells ∈ WS := WS_of (tm5 _ (List.mem_of_getElem? (i := 22) (by decide +kernel))) rfl
theorem kw1214 : Cond.methodLink RX9 39 ⟨"OnTiptoe$Walker", "actGoes", "(I)I"⟩ ∈ WS := WS_of (tm5 _ (List.mem_of_getElem? (i := 50) (by decide +kernel))) rfl
theorem kw1215 : Cond.methodLink RX9 39 yX9_actGoes ∈ WS := WS_of (tm5 _ (List.mem_of_getElem? (i := 50) (by decide +kernel))) rfl
theorem kw1216 : Cond.selects RX5 ⟨"OnTiptoe$Walker", "actTells", "(I)I"⟩ yX5_actTells ∈ WS := WS_of (tm5 _ (List.mem_of_getElem? (i := 35) (by decide +kernel))) rfl
theorem kw1217 : Cond.instanceMethod yX5_actTells ∈ WS := WS_of (tm5 _ (List.mem_of_getElem? (i := 36) (by decide +kernel))) rfl
theorem kw1218 : Cond.code yX5_actTells cX5_actTells 2 (some .int) ∈ WS := WS_of (tm5 _ (List.mem_of_getElem? (i := 37) rfl)) rfl
theorem kw1219 : Cond.methodLink RX5 13 ⟨"OnTiptoe$Slow", "begin", "(I)V"⟩ ∈ WS := WS_of (tm5 _ (List.mem_of_getElem? (i := 38) (by decide +kernel))) rfl
theorem kw1220 : Cond.sameMethod "OnTiptoe$Slow" "OnTiptoe$Walker" "begin" "(I)V" ∈ WS := WS_of (tm5 _ (List.mem_of_getElem? (i := 39) (by decide +kernel))) rfl
theorem kw1221 : Cond.selects RX5 ⟨"OnTiptoe$Slow", "begin", "(I)V"⟩ yX9_begin ∈ WS := WS_of (tm5 _ (List.mem_of_getElem? (i := 40) (by decide +kernel))) rfl
theorem kw1222 : Cond.selects RX8 ⟨"OnTiptoe$Slow", "begin", "(I)V"⟩ yX9_begin ∈ WS := WS_of (tm5 _ (List.mem_of_getElem? (i := 41) (by decide +kernel))) rfl
theorem kw1223 : Cond.methodLink RX5 19 yX9_actTells ∈ WS := WS_of (tm5 _ (List.mem_of_getElem? (i := 42) (by decide +kernel))) rfl
theorem kw1224 : Cond.superclass RX5 RX9 ∈ WS := WS_of (tm2 _ (List.mem_of_getElem? (i := 93) (by decide +kernel))) rfl
theorem kw1225 : Cond.methodLink RX5 23 ⟨"OnTiptoe$Slow", "actGoes", "(I)I"⟩ ∈ WS := WS_of (tm5 _ (List.mem_of_getElem? (i := 43) (by decide +kernel))) rfl
theorem kw1226 : Cond.sameMethod "OnTiptoe$Slow" "OnTiptoe$Walker" "actGoes" "(I)I" ∈ WS := WS_of (tm5 _ (List.mem_of_getElem? (i := 17) (by decide +kernel))) rfl
theorem kw1227 : Cond.selects RX5 ⟨"OnTiptoe$Slow", "actGoes", "(I)I"⟩ yX9_actGoes ∈ WS := WS_of (tm5 _ (List.mem_of_getElem? (i := 44) (by decide +kernel))) rfl
theorem kw1228 : Cond.selects RX8 ⟨"OnTiptoe$Slow", "actGoes", "(I)I"⟩ yX8_actGoes ∈ WS := WS_of (tm5 _ (List.mem_of_getElem? (i := 45) (by decide +kernel))) rfl
theorem kw1229 : Cond.selects RX6 ⟨"OnTiptoe$Walker", "actTells", "(I)I"⟩ yX9_actTells ∈ WS := WS_of (tm5 _ (List.mem_of_getElem? (i := 46) (by decide +kernel))) rfl
theorem kw1230 : Cond.selects RX7 ⟨"OnTiptoe$Walker", "actTells", "(I)I"⟩ yX9_actTells ∈ WS := WS_of (tm5 _ (List.mem_of_getElem? (i := 47) (by decide +kernel))) rfl
theorem kw1231 : Cond.selects RX8 ⟨"OnTiptoe$Walker", "actTells", "(I)I"⟩ yX5_actTells ∈ WS := WS_of (tm5 _ (List.mem_of_getElem? (i := 48) (by decide +kernel))) rfl
theorem kw1232 : Cond.methodLink RX11 264 yX9_actTells ∈ WS := WS_of (tm5 _ (List.mem_of_getElem? (i := 21) (by decide +kernel))) rfl
theorem kw1233 : Cond.selects RX9 yX9_actTells yX9_actTells ∈ WS := WS_of (tm5 _ (List.mem_of_getElem? (i := 23) (by decide +kernel))) rfl
theorem kw1234 : Cond.methodLink RL 147 yX12_act ∈ WS := WS_of (tm7 _ (List.mem_of_getElem? (i := 140) (by decide +kernel))) rfl
theorem kw1235 : Cond.instanceMethod yX12_act ∈ WS := WS_of (tm7 _ (List.mem_of_getElem? (i := 141) (by decide +kernel))) rfl
theorem kw1236 : Cond.selects RX12 yX12_act yX12_act ∈ WS := WS_of (tm7 _ (List.mem_of_getElem? (i := 142) (by decide +kernel))) rfl
theorem kw1237 : Cond.code yX12_act cX12_act 4 (some .int) ∈ WS := WS_of (tm7 _ (List.mem_of_getElem? (i := 143) rfl)) rfl
theorem kw1238 : Cond.methodLink RX12 387 yX12_treadsAct ∈ WS := WS_of (tm7 _ (List.mem_of_getElem? (i := 144) (by decide +kernel))) rfl
theorem kw1239 : Cond.instanceMethod yX12_treadsAct ∈ WS := WS_of (tm7 _ (List.mem_of_getElem? (i := 146) (by decide +kernel))) rfl
theorem kw1240 : Cond.selects RX12 yX12_treadsAct yX12_treadsAct ∈ WS := WS_of (tm0 _ (List.mem_of_getElem? (i := 67) (by decide +kernel))) rfl
theorem kw1241 : Cond.code yX12_treadsAct cX12_treadsAct 3 (some .int) ∈ WS := WS_of (tm7 _ (List.mem_of_getElem? (i := 147) rfl)) rfl
theorem kw1242 : Cond.methodLink RX12 381 yX12_body ∈ WS := WS_of (tm7 _ (List.mem_of_getElem? (i := 148) (by decide +kernel))) rfl
theorem kw1243 : Cond.instanceMethod yX12_body ∈ WS := WS_of (tm7 _ (List.mem_of_getElem? (i := 150) (by decide +kernel))) rfl
theorem kw1244 : Cond.selects RX12 yX12_body yX12_body ∈ WS := WS_of (tm0 _ (List.mem_of_getElem? (i := 68) (by decide +kernel))) rfl
theorem kw1245 : Cond.code yX12_body cX12_body 2 none ∈ WS := WS_of (tm7 _ (List.mem_of_getElem? (i := 151) rfl)) rfl
theorem kw1246 : Cond.methodLink RX12 384 yX12_walkerTreads ∈ WS := WS_of (tm7 _ (List.mem_of_getElem? (i := 152) (by decide +kernel))) rfl
theorem kw1247 : Cond.instanceMethod yX12_walkerTreads ∈ WS := WS_of (tm7 _ (List.mem_of_getElem? (i := 154) (by decide +kernel))) rfl
theorem kw1248 : Cond.selects RX12 yX12_walkerTreads yX12_walkerTreads ∈ WS := WS_of (tm0 _ (List.mem_of_getElem? (i := 69) (by decide +kernel))) rfl
theorem kw1249 : Cond.code yX12_walkerTreads cX12_walkerTreads 3 (some .int) ∈ WS := WS_of (tm7 _ (List.mem_of_getElem? (i := 155) rfl)) rfl
theorem kw1250 : Cond.methodLink RX12 396 yX12_goesAct ∈ WS := WS_of (tm7 _ (List.mem_of_getElem? (i := 156) (by decide +kernel))) rfl
theorem kw1251 : Cond.instanceMethod yX12_goesAct ∈ WS := WS_of (tm7 _ (List.mem_of_getElem? (i := 158) (by decide +kernel))) rfl
theorem kw1252 : Cond.selects RX12 yX12_goesAct yX12_goesAct ∈ WS := WS_of (tm0 _ (List.mem_of_getElem? (i := 70) (by decide +kernel))) rfl
theorem kw1253 : Cond.code yX12_goesAct cX12_goesAct 4 (some .int) ∈ WS := WS_of (tm7 _ (List.mem_of_getElem? (i := 159) rfl)) rfl
theorem kw1254 : Cond.methodLink RX12 393 yX12_heavyGoes ∈ WS := WS_of (tm7 _ (List.mem_of_getElem? (i := 160) (by decide +kernel))) rfl
theorem kw1255 : Cond.instanceMethod yX12_heavyGoes ∈ WS := WS_of (tm7 _ (List.mem_of_getElem? (i := 162) (by decide +kernel))) rfl
theorem kw1256 : Cond.selects RX12 yX12_heavyGoes yX12_heavyGoes ∈ WS := WS_of (tm0 _ (List.mem_of_getElem? (i := 71) (by decide +kernel))) rfl
theorem kw1257 : Cond.code yX12_heavyGoes cX12_heavyGoes 3 (some .int) ∈ WS := WS_of (tm7 _ (List.mem_of_getElem? (i := 163) rfl)) rfl
theorem kw1258 : Cond.methodLink RX12 390 yX12_walkerGoes ∈ WS := WS_of (tm7 _ (List.mem_of_getElem? (i := 164) (by decide +kernel))) rfl
theorem kw1259 : Cond.instanceMethod yX12_walkerGoes ∈ WS := WS_of (tm7 _ (List.mem_of_getElem? (i := 166) (by decide +kernel))) rfl
theorem kw1260 : Cond.selects RX12 yX12_walkerGoes yX12_walkerGoes ∈ WS := WS_of (tm0 _ (List.mem_of_getElem? (i := 72) (by decide +kernel))) rfl
theorem kw1261 : Cond.code yX12_walkerGoes cX12_walkerGoes 3 (some .int) ∈ WS := WS_of (tm7 _ (List.mem_of_getElem? (i := 167) rfl)) rfl
theorem kw1262 : Cond.methodLink RX12 402 yX12_tellsAct ∈ WS := WS_of (tm7 _ (List.mem_of_getElem? (i := 168) (by decide +kernel))) rfl
theorem kw1263 : Cond.instanceMethod yX12_tellsAct ∈ WS := WS_of (tm7 _ (List.mem_of_getElem? (i := 170) (by decide +kernel))) rfl
theorem kw1264 : Cond.selects RX12 yX12_tellsAct yX12_tellsAct ∈ WS := WS_of (tm0 _ (List.mem_of_getElem? (i := 73) (by decide +kernel))) rfl
theorem kw1265 : Cond.code yX12_tellsAct cX12_tellsAct 4 (some .int) ∈ WS := WS_of (tm7 _ (List.mem_of_getElem? (i := 171) rfl)) rfl
theorem kw1266 : Cond.methodLink RX12 399 yX12_walkerTells ∈ WS := WS_of (tm7 _ (List.mem_of_getElem? (i := 172) (by decide +kernel))) rfl
theorem kw1267 : Cond.instanceMethod yX12_walkerTells ∈ WS := WS_of (tm7 _ (List.mem_of_getElem? (i := 174) (by decide +kernel))) rfl
theorem kw1268 : Cond.selects RX12 yX12_walkerTells yX12_walkerTells ∈ WS := WS_of (tm0 _ (List.mem_of_getElem? (i := 74) (by decide +kernel))) rfl
theorem kw1269 : Cond.code yX12_walkerTells cX12_walkerTells 3 (some .int) ∈ WS := WS_of (tm7 _ (List.mem_of_getElem? (i := 175) rfl)) rfl
theorem kw1270 : Cond.methodLink RL 148 yX11_trace ∈ WS := WS_of (tm5 _ (List.mem_of_getElem? (i := 51) (by decide +kernel))) rfl
theorem kw1271 : Cond.instanceMethod yX11_trace ∈ WS := WS_of (tm5 _ (List.mem_of_getElem? (i := 52) (by decide +kernel))) rfl
theorem kw1272 : Cond.selects RX11 yX11_trace yX11_trace ∈ WS := WS_of (tm5 _ (List.mem_of_getElem? (i := 53) (by decide +kernel))) rfl
theorem kw1273 : Cond.code yX11_trace cX11_trace 2 (some .int) ∈ WS := WS_of (tm5 _ (List.mem_of_getElem? (i := 54) rfl)) rfl
theorem kw1274 : Cond.fieldLink RX11 267 "OnTiptoe$Walker" "ran" "[I" ∈ WS := WS_of (tm2 _ (List.mem_of_getElem? (i := 52) (by decide +kernel))) rfl
theorem kw1275 : Cond.methodLink RL 151 yX12_trace ∈ WS := WS_of (tm7 _ (List.mem_of_getElem? (i := 176) (by decide +kernel))) rfl
theorem kw1276 : Cond.instanceMethod yX12_trace ∈ WS := WS_of (tm7 _ (List.mem_of_getElem? (i := 177) (by decide +kernel))) rfl
theorem kw1277 : Cond.selects RX12 yX12_trace yX12_trace ∈ WS := WS_of (tm7 _ (List.mem_of_getElem? (i := 178) (by decide +kernel))) rfl
theorem kw1278 : Cond.code yX12_trace cX12_trace 2 (some .int) ∈ WS := WS_of (tm7 _ (List.mem_of_getElem? (i := 179) rfl)) rfl
theorem kw1279 : Cond.methodLink RL 152 yX11_taken ∈ WS := WS_of (tm5 _ (List.mem_of_getElem? (i := 55) (by decide +kernel))) rfl
theorem kw1280 : Cond.instanceMethod yX11_taken ∈ WS := WS_of (tm5 _ (List.mem_of_getElem? (i := 56) (by decide +kernel))) rfl
theorem kw1281 : Cond.selects RX11 yX11_taken yX11_taken ∈ WS := WS_of (tm5 _ (List.mem_of_getElem? (i := 57) (by decide +kernel))) rfl
theorem kw1282 : Cond.code yX11_taken cX11_taken 4 (some .int) ∈ WS := WS_of (tm5 _ (List.mem_of_getElem? (i := 58) rfl)) rfl
theorem kw1283 : Cond.methodLink RX11 270 yX11_isOfKind ∈ WS := WS_of (tm5 _ (List.mem_of_getElem? (i := 59) (by decide +kernel))) rfl
theorem kw1284 : Cond.static yX11_isOfKind ∈ WS := WS_of (tm5 _ (List.mem_of_getElem? (i := 60) (by decide +kernel))) rfl
theorem kw1285 : Cond.code yX11_isOfKind cX11_isOfKind 2 (some .boolean) ∈ WS := WS_of (tm5 _ (List.mem_of_getElem? (i := 61) rfl)) rfl
theorem kw1286 : Cond.classLink RX11 288 "OnTiptoe$Heavy" ∈ WS := WS_of (tm2 _ (List.mem_of_getElem? (i := 28) (by decide +kernel))) rfl
theorem kw1287 : Cond.classLink RX11 293 "OnTiptoe$Soft" ∈ WS := WS_of (tm2 _ (List.mem_of_getElem? (i := 68) (by decide +kernel))) rfl
theorem kw1288 : Cond.classLink RX11 296 "OnTiptoe$Slow" ∈ WS := WS_of (tm2 _ (List.mem_of_getElem? (i := 81) (by decide +kernel))) rfl
theorem kw1289 : Cond.classLink RX11 299 "OnTiptoe$Tired" ∈ WS := WS_of (tm2 _ (List.mem_of_getElem? (i := 94) (by decide +kernel))) rfl
theorem kw1290 : Cond.classLink RX11 302 "OnTiptoe$Bare" ∈ WS := WS_of (tm2 _ (List.mem_of_getElem? (i := 107) (by decide +kernel))) rfl
theorem kw1291 : Cond.methodLink RL 155 yX12_taken ∈ WS := WS_of (tm7 _ (List.mem_of_getElem? (i := 180) (by decide +kernel))) rfl
theorem kw1292 : Cond.instanceMethod yX12_taken ∈ WS := WS_of (tm7 _ (List.mem_of_getElem? (i := 181) (by decide +kernel))) rfl
theorem kw1293 : Cond.selects RX12 yX12_taken yX12_taken ∈ WS := WS_of (tm7 _ (List.mem_of_getElem? (i := 182) (by decide +kernel))) rfl
theorem kw1294 : Cond.code yX12_taken cX12_taken 4 (some .int) ∈ WS := WS_of (tm7 _ (List.mem_of_getElem? (i := 183) rfl)) rfl
theorem kw1295 : Cond.methodLink RL 156 yX11_count ∈ WS := WS_of (tm5 _ (List.mem_of_getElem? (i := 62) (by decide +kernel))) rfl
theorem kw1296 : Cond.instanceMethod yX11_count ∈ WS := WS_of (tm5 _ (List.mem_of_getElem? (i := 63) (by decide +kernel))) rfl
theorem kw1297 : Cond.selects RX11 yX11_count yX11_count ∈ WS := WS_of (tm5 _ (List.mem_of_getElem? (i := 64) (by decide +kernel))) rfl
theorem kw1298 : Cond.code yX11_count cX11_count 2 (some .int) ∈ WS := WS_of (tm5 _ (List.mem_of_getElem? (i := 65) rfl)) rfl
theorem kw1299 : Cond.methodLink RL 159 yX12_count ∈ WS := WS_of (tm7 _ (List.mem_of_getElem? (i := 184) (by decide +kernel))) rfl
theorem kw1300 : Cond.instanceMethod yX12_count ∈ WS := WS_of (tm7 _ (List.mem_of_getElem? (i := 185) (by decide +kernel))) rfl
theorem kw1301 : Cond.selects RX12 yX12_count yX12_count ∈ WS := WS_of (tm7 _ (List.mem_of_getElem? (i := 186) (by decide +kernel))) rfl
theorem kw1302 : Cond.code yX12_count cX12_count 2 (some .int) ∈ WS := WS_of (tm7 _ (List.mem_of_getElem? (i := 187) rfl)) rfl
theorem kw1303 : Cond.methodLink RL 160 yX11_tape ∈ WS := WS_of (tm5 _ (List.mem_of_getElem? (i := 66) (by decide +kernel))) rfl
theorem kw1304 : Cond.instanceMethod yX11_tape ∈ WS := WS_of (tm5 _ (List.mem_of_getElem? (i := 67) (by decide +kernel))) rfl
theorem kw1305 : Cond.selects RX11 yX11_tape yX11_tape ∈ WS := WS_of (tm5 _ (List.mem_of_getElem? (i := 68) (by decide +kernel))) rfl
theorem kw1306 : Cond.code yX11_tape cX11_tape 5 (some .int) ∈ WS := WS_of (tm5 _ (List.mem_of_getElem? (i := 69) rfl)) rfl
theorem kw1307 : Cond.methodLink RL 163 yX12_tape ∈ WS := WS_of (tm7 _ (List.mem_of_getElem? (i := 188) (by decide +kernel))) rfl
theorem kw1308 : Cond.instanceMethod yX12_tape ∈ WS := WS_of (tm7 _ (List.mem_of_getElem? (i := 189) (by decide +kernel))) rfl
theorem kw1309 : Cond.selects RX12 yX12_tape yX12_tape ∈ WS := WS_of (tm7 _ (List.mem_of_getElem? (i := 190) (by decide +kernel))) rfl
theorem kw1310 : Cond.code yX12_tape cX12_tape 5 (some .int) ∈ WS := WS_of (tm7 _ (List.mem_of_getElem? (i := 191) rfl)) rfl
theorem kw1311 : Cond.methodLink RL 166 yX11_item ∈ WS := WS_of (tm5 _ (List.mem_of_getElem? (i := 70) (by decide +kernel))) rfl
theorem kw1312 : Cond.instanceMethod yX11_item ∈ WS := WS_of (tm5 _ (List.mem_of_getElem? (i := 71) (by decide +kernel))) rfl
theorem kw1313 : Cond.selects RX11 yX11_item yX11_item ∈ WS := WS_of (tm5 _ (List.mem_of_getElem? (i := 72) (by decide +kernel))) rfl
theorem kw1314 : Cond.code yX11_item cX11_item 5 (some .int) ∈ WS := WS_of (tm5 _ (List.mem_of_getElem? (i := 73) rfl)) rfl
theorem kw1315 : Cond.methodLink RX11 274 yX11_hasPlace ∈ WS := WS_of (tm5 _ (List.mem_of_getElem? (i := 74) (by decide +kernel))) rfl
theorem kw1316 : Cond.instanceMethod yX11_hasPlace ∈ WS := WS_of (tm5 _ (List.mem_of_getElem? (i := 76) (by decide +kernel))) rfl
theorem kw1317 : Cond.selects RX11 yX11_hasPlace yX11_hasPlace ∈ WS := WS_of (tm0 _ (List.mem_of_getElem? (i := 22) (by decide +kernel))) rfl
theorem kw1318 : Cond.code yX11_hasPlace cX11_hasPlace 3 (some .boolean) ∈ WS := WS_of (tm5 _ (List.mem_of_getElem? (i := 77) rfl)) rfl
theorem kw1319 : Cond.methodLink RX11 277 yX11_lowestBits ∈ WS := WS_of (tm5 _ (List.mem_of_getElem? (i := 78) (by decide +kernel))) rfl
theorem kw1320 : Cond.static yX11_lowestBits ∈ WS := WS_of (tm5 _ (List.mem_of_getElem? (i := 79) (by decide +kernel))) rfl
theorem kw1321 : Cond.code yX11_lowestBits cX11_lowestBits 3 (some .long) ∈ WS := WS_of (tm5 _ (List.mem_of_getElem? (i := 80) rfl)) rfl
theorem kw1322 : Cond.methodLink RL 170 yX12_item ∈ WS := WS_of (tm7 _ (List.mem_of_getElem? (i := 192) (by decide +kernel))) rfl
theorem kw1323 : Cond.instanceMethod yX12_item ∈ WS := WS_of (tm7 _ (List.mem_of_getElem? (i := 193) (by decide +kernel))) rfl
theorem kw1324 : Cond.selects RX12 yX12_item yX12_item ∈ WS := WS_of (tm7 _ (List.mem_of_getElem? (i := 194) (by decide +kernel))) rfl
theorem kw1325 : Cond.code yX12_item cX12_item 5 (some .int) ∈ WS := WS_of (tm7 _ (List.mem_of_getElem? (i := 195) rfl)) rfl
theorem kw1326 : Cond.methodLink RX12 405 yX12_narrow ∈ WS := WS_of (tm7 _ (List.mem_of_getElem? (i := 196) (by decide +kernel))) rfl
theorem kw1327 : Cond.instanceMethod yX12_narrow ∈ WS := WS_of (tm7 _ (List.mem_of_getElem? (i := 198) (by decide +kernel))) rfl
theorem kw1328 : Cond.selects RX12 yX12_narrow yX12_narrow ∈ WS := WS_of (tm0 _ (List.mem_of_getElem? (i := 75) (by decide +kernel))) rfl
theorem kw1329 : Cond.code yX12_narrow cX12_narrow 4 (some .long) ∈ WS := WS_of (tm7 _ (List.mem_of_getElem? (i := 199) rfl)) rfl
theorem kw1330 : Cond.methodLink RL 171 yX11_read ∈ WS := WS_of (tm5 _ (List.mem_of_getElem? (i := 81) (by decide +kernel))) rfl
theorem kw1331 : Cond.instanceMethod yX11_read ∈ WS := WS_of (tm5 _ (List.mem_of_getElem? (i := 82) (by decide +kernel))) rfl
theorem kw1332 : Cond.selects RX11 yX11_read yX11_read ∈ WS := WS_of (tm5 _ (List.mem_of_getElem? (i := 83) (by decide +kernel))) rfl
theorem kw1333 : Cond.code yX11_read cX11_read 3 (some .long) ∈ WS := WS_of (tm5 _ (List.mem_of_getElem? (i := 84) rfl)) rfl
theorem kw1334 : Cond.methodLink RL 174 yX12_read ∈ WS := WS_of (tm7 _ (List.mem_of_getElem? (i := 200) (by decide +kernel))) rfl
theorem kw1335 : Cond.instanceMethod yX12_read ∈ WS := WS_of (tm7 _ (List.mem_of_getElem? (i := 201) (by decide +kernel))) rfl
theorem kw1336 : Cond.selects RX12 yX12_read yX12_read ∈ WS := WS_of (tm7 _ (List.mem_of_getElem? (i := 202) (by decide +kernel))) rfl
theorem kw1337 : Cond.code yX12_read cX12_read 3 (some .long) ∈ WS := WS_of (tm7 _ (List.mem_of_getElem? (i := 203) rfl)) rfl
theorem kw1338 : Cond.methodLink RL 175 yX11_shift ∈ WS := WS_of (tm5 _ (List.mem_of_getElem? (i := 85) (by decide +kernel))) rfl
theorem kw1339 : Cond.instanceMethod yX11_shift ∈ WS := WS_of (tm5 _ (List.mem_of_getElem? (i := 86) (by decide +kernel))) rfl
theorem kw1340 : Cond.selects RX11 yX11_shift yX11_shift ∈ WS := WS_of (tm5 _ (List.mem_of_getElem? (i := 87) (by decide +kernel))) rfl
theorem kw1341 : Cond.code yX11_shift cX11_shift 7 (some .int) ∈ WS := WS_of (tm5 _ (List.mem_of_getElem? (i := 88) rfl)) rfl
theorem kw1342 : Cond.methodLink RX11 281 yX11_hasPart ∈ WS := WS_of (tm5 _ (List.mem_of_getElem? (i := 89) (by decide +kernel))) rfl
theorem kw1343 : Cond.instanceMethod yX11_hasPart ∈ WS := WS_of (tm5 _ (List.mem_of_getElem? (i := 91) (by decide +kernel))) rfl
theorem kw1344 : Cond.selects RX11 yX11_hasPart yX11_hasPart ∈ WS := WS_of (tm0 _ (List.mem_of_getElem? (i := 23) (by decide +kernel))) rfl
theorem kw1345 : Cond.code yX11_hasPart cX11_hasPart 5 (some .boolean) ∈ WS := WS_of (tm5 _ (List.mem_of_getElem? (i := 92) rfl)) rfl
theorem kw1346 : Cond.methodLink RL 179 yX12_shift ∈ WS := WS_of (tm7 _ (List.mem_of_getElem? (i := 204) (by decide +kernel))) rfl
theorem kw1347 : Cond.instanceMethod yX12_shift ∈ WS := WS_of (tm7 _ (List.mem_of_getElem? (i := 205) (by decide +kernel))) rfl
theorem kw1348 : Cond.selects RX12 yX12_shift yX12_shift ∈ WS := WS_of (tm7 _ (List.mem_of_getElem? (i := 206) (by decide +kernel))) rfl
theorem kw1349 : Cond.code yX12_shift cX12_shift 7 (some .int) ∈ WS := WS_of (tm7 _ (List.mem_of_getElem? (i := 207) rfl)) rfl
theorem kw1350 : Cond.superclass "OnTiptoe$House" "java/lang/Object" ∈ WS := WS_of (tm1 _ (List.mem_of_getElem? (i := 106) (by decide +kernel))) rfl
theorem kw1351 : Cond.superclass "OnTiptoe$Reader" "java/lang/Object" ∈ WS := WS_of (tm1 _ (List.mem_of_getElem? (i := 131) (by decide +kernel))) rfl
theorem kw1352 : Cond.superclass "OnTiptoe$Ways" "java/lang/Object" ∈ WS := WS_of (tm1 _ (List.mem_of_getElem? (i := 174) (by decide +kernel))) rfl
theorem kw1353 : Cond.superclass "OnTiptoe$Night" "java/lang/Object" ∈ WS := WS_of (tm1 _ (List.mem_of_getElem? (i := 200) (by decide +kernel))) rfl
theorem kw1354 : Cond.superclass "OnTiptoe" "java/lang/Object" ∈ WS := WS_of (tm2 _ (List.mem_of_getElem? (i := 1) (by decide +kernel))) rfl
theorem kw1355 : Cond.superclass "OnTiptoe$Walker" "java/lang/Object" ∈ WS := WS_of (tm2 _ (List.mem_of_getElem? (i := 148) (by decide +kernel))) rfl
theorem kw1356 : Cond.methodLink RX8 25 ⟨"OnTiptoe$Slow", "keep", "()V"⟩ ∈ WS := WS_of (tm4 _ (List.mem_of_getElem? (i := 168) (by decide +kernel))) rfl
theorem kw1357 : Cond.sameMethod "OnTiptoe$Slow" "OnTiptoe$Walker" "keep" "()V" ∈ WS := WS_of (tm4 _ (List.mem_of_getElem? (i := 169) (by decide +kernel))) rfl
theorem kw1358 : Cond.methodLink RX8 35 ⟨"OnTiptoe$Slow", "goBack", "()V"⟩ ∈ WS := WS_of (tm4 _ (List.mem_of_getElem? (i := 189) (by decide +kernel))) rfl
theorem kw1359 : Cond.sameMethod "OnTiptoe$Slow" "OnTiptoe$Walker" "goBack" "()V" ∈ WS := WS_of (tm4 _ (List.mem_of_getElem? (i := 190) (by decide +kernel))) rfl
theorem kw1360 : Cond.methodLink RX7 17 ⟨"OnTiptoe$Heavy", "actTreads", "(I)I"⟩ ∈ WS := WS_of (tm4 _ (List.mem_of_getElem? (i := 221) (by decide +kernel))) rfl
theorem kw1361 : Cond.sameMethod "OnTiptoe$Heavy" "OnTiptoe$Walker" "actTreads" "(I)I" ∈ WS := WS_of (tm4 _ (List.mem_of_getElem? (i := 222) (by decide +kernel))) rfl
theorem kw1362 : Cond.methodLink RX8 46 ⟨"OnTiptoe$Slow", "actTreads", "(I)I"⟩ ∈ WS := WS_of (tm4 _ (List.mem_of_getElem? (i := 230) (by decide +kernel))) rfl
theorem kw1363 : Cond.sameMethod "OnTiptoe$Slow" "OnTiptoe$Walker" "actTreads" "(I)I" ∈ WS := WS_of (tm4 _ (List.mem_of_getElem? (i := 231) (by decide +kernel))) rfl
theorem kw1364 : Cond.methodLink RX8 42 ⟨"OnTiptoe$Slow", "actGoes", "(I)I"⟩ ∈ WS := WS_of (tm5 _ (List.mem_of_getElem? (i := 16) (by decide +kernel))) rfl
theorem kw1365 : Cond.methodLink RX0 24 ⟨"OnTiptoe$Soft", "actTells", "(I)I"⟩ ∈ WS := WS_of (tm5 _ (List.mem_of_getElem? (i := 31) (by decide +kernel))) rfl
theorem kw1366 : Cond.sameMethod "OnTiptoe$Soft" "OnTiptoe$Walker" "actTells" "(I)I" ∈ WS := WS_of (tm5 _ (List.mem_of_getElem? (i := 32) (by decide +kernel))) rfl
theorem kw1367 : Cond.superclass "OnTiptoeModel" "java/lang/Object" ∈ WS := WS_of (tm6 _ (List.mem_of_getElem? (i := 81) (by decide +kernel))) rfl
theorem inW0 : ∀ w ∈ u_ws RX0 TX0 6, w ∈ WS := fun w h => WS_of (List.mem_append_right _ (goodIn_r (big := tables_1) (u_ws RX0 TX0 6) [353, 354, 355, 356, 357, 358] (by decide +kernel) (by decide +kernel) w h).1) (List.all_eq_true.mp (show (u_ws RX0 TX0 6).all goodWord = true by decide +kernel) w h)
theorem inW1 : ∀ w ∈ u_ws RX1 TX1 6, w ∈ WS := fun w h => WS_of (List.mem_append_right _ (goodIn_r (big := tables_1) (u_ws RX1 TX1 6) [295, 297, 299, 301, 303, 305] (by decide +kernel) (by decide +kernel) w h).1) (List.all_eq_true.mp (show (u_ws RX1 TX1 6).all goodWord = true by decide +kernel) w h)
theorem inW2 : ∀ w ∈ u_ws RX2 TX2 17, w ∈ WS := fun w h => WS_of (List.mem_append_right _ (goodIn_r (big := tables_1) (u_ws RX2 TX2 17) [72, 74, 76, 78, 80, 82, 84, 86, 88, 90, 92, 94, 96, 98, 100, 102, 104] (by decide +kernel) (by decide +kernel) w h).1) (List.all_eq_true.mp (show (u_ws RX2 TX2 17).all goodWord = true by decide +kernel) w h)
theorem inW3 : ∀ w ∈ u_ws RX3 TX3 6, w ∈ WS := fun w h => WS_of (List.mem_append_right _ (goodIn_r (big := tables_1) (u_ws RX3 TX3 6) [188, 190, 192, 194, 196, 198] (by decide +kernel) (by decide +kernel) w h).1) (List.all_eq_true.mp (show (u_ws RX3 TX3 6).all goodWord = true by decide +kernel) w h)
theorem inW4 : ∀ w ∈ u_ws RX4 TX4 4, w ∈ WS := fun w h => WS_of (List.mem_append_right _ (goodIn_r (big := tables_1) (u_ws RX4 TX4 4) [123, 125, 127, 129] (by decide +kernel) (by decide +kernel) w h).1) (List.all_eq_true.mp (show (u_ws RX4 TX4 4).all goodWord = true by decide +kernel) w h)
theorem inW5 : ∀ w ∈ u_ws RX5 TX5 6, w ∈ WS := fun w h => WS_of (List.mem_append_right _ (goodIn_r (big := tables_1) (u_ws RX5 TX5 6) [327, 328, 329, 330, 331, 332] (by decide +kernel) (by decide +kernel) w h).1) (List.all_eq_true.mp (show (u_ws RX5 TX5 6).all goodWord = true by decide +kernel) w h)
theorem inW6 : ∀ w ∈ u_ws RX6 TX6 6, w ∈ WS := fun w h => WS_of (List.mem_append_right _ (goodIn_r (big := tables_1) (u_ws RX6 TX6 6) [314, 315, 316, 317, 318, 319] (by decide +kernel) (by decide +kernel) w h).1) (List.all_eq_true.mp (show (u_ws RX6 TX6 6).all goodWord = true by decide +kernel) w h)
theorem inW7 : ∀ w ∈ u_ws RX7 TX7 6, w ∈ WS := fun w h => WS_of (List.mem_append_right _ (goodIn_r (big := tables_1) (u_ws RX7 TX7 6) [340, 341, 342, 343, 344, 345] (by decide +kernel) (by decide +kernel) w h).1) (List.all_eq_true.mp (show (u_ws RX7 TX7 6).all goodWord = true by decide +kernel) w h)
theorem inW8 : ∀ w ∈ u_ws RX8 TX8 8, w ∈ WS := fun w h => WS_of (List.mem_append_right _ (goodIn_r (big := tables_1) (u_ws RX8 TX8 8) [373, 374, 375, 376, 377, 378, 369, 371] (by decide +kernel) (by decide +kernel) w h).1) (List.all_eq_true.mp (show (u_ws RX8 TX8 8).all goodWord = true by decide +kernel) w h)
theorem inW9 : ∀ w ∈ u_ws RX9 TX9 6, w ∈ WS := fun w h => WS_of (List.mem_append_right _ (goodIn_r (big := tables_1) (u_ws RX9 TX9 6) [382, 383, 384, 385, 386, 387] (by decide +kernel) (by decide +kernel) w h).1) (List.all_eq_true.mp (show (u_ws RX9 TX9 6).all goodWord = true by decide +kernel) w h)
theorem inW10 : ∀ w ∈ u_ws RX10 TX10 10, w ∈ WS := fun w h => WS_of (List.mem_append_right _ (goodIn_r (big := tables_1) (u_ws RX10 TX10 10) [154, 156, 158, 160, 162, 164, 166, 168, 170, 172] (by decide +kernel) (by decide +kernel) w h).1) (List.all_eq_true.mp (show (u_ws RX10 TX10 10).all goodWord = true by decide +kernel) w h)
theorem inW11 : ∀ w ∈ u_ws RX11 TX11 13, w ∈ WS := fun w h => WS_of (List.mem_append_right _ (goodIn_r (big := tables_1) (u_ws RX11 TX11 13) [215, 217, 219, 221, 223, 225, 227, 229, 231, 233, 235, 237, 239] (by decide +kernel) (by decide +kernel) w h).1) (List.all_eq_true.mp (show (u_ws RX11 TX11 13).all goodWord = true by decide +kernel) w h)
theorem inW12 : ∀ w ∈ u_ws RX12 TX12 74, w ∈ WS := fun w h => WS_of (List.mem_append_right _ (goodIn_r (big := tables_1) (u_ws RX12 TX12 74) [1133, 1135, 1137, 1139, 1141, 1143, 1145, 1147, 1149, 1151, 1153, 1155, 1157, 1159, 1161, 1163, 1165, 1167, 1169, 1171, 1173, 1175, 1177, 1179, 1181, 1183, 1185, 1187, 1189, 1191, 1193, 1195, 1197, 1199, 1201, 1203, 1205, 1207, 1209, 1211, 1213, 1215, 1217, 1219, 1221, 1223, 1225, 1227, 1229, 1231, 1233, 1235, 1237, 1239, 1241, 1243, 1245, 1247, 1249, 1251, 1253, 1255, 1257, 1259, 1261, 1263, 1265, 1267, 1269, 1271, 1273, 1275, 1277, 1279] (by decide +kernel) (by decide +kernel) w h).1) (List.all_eq_true.mp (show (u_ws RX12 TX12 74).all goodWord = true by decide +kernel) w h)

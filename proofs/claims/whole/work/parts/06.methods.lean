theorem my_yJ7_fill_53178 : gY yJ7_fill_53178 cJ7_fill_53178 4 none 2 := ⟨tq1 35 rfl, tq1 3 rfl, ⟨by decide +kernel, by decide +kernel, by decide +kernel⟩, by decide⟩
theorem mt_yJ7_fill_53178 : Cond.static yJ7_fill_53178 ∈ lw_tbl := tq1 34 rfl
theorem my_yX8_row : gY yX8_row cX8_row 4 (some .long) 3 := ⟨tq2 76 rfl, tq1 1 rfl, ⟨by decide +kernel, by decide +kernel, by decide +kernel⟩, by decide⟩
theorem mi_yX8_row : Cond.instanceMethod yX8_row ∈ lw_tbl := tq2 74 rfl
theorem ms_yX8_row : Cond.selects yX8_row.cls yX8_row yX8_row ∈ lw_tbl := tq2 75 rfl
theorem my_yX8_isRow : gY yX8_isRow cX8_isRow 1 (some .boolean) 1 := ⟨tq2 79 rfl, tq1 1 rfl, ⟨by decide +kernel, by decide +kernel, by decide +kernel⟩, by decide⟩
theorem mt_yX8_isRow : Cond.static yX8_isRow ∈ lw_tbl := tq2 78 rfl
theorem my_yX8_found : gY yX8_found cX8_found 2 (some .long) 1 := ⟨tq2 84 rfl, tq1 1 rfl, ⟨by decide +kernel, by decide +kernel, by decide +kernel⟩, by decide⟩
theorem mi_yX8_found : Cond.instanceMethod yX8_found ∈ lw_tbl := tq2 83 rfl
theorem ms_yX8_found : Cond.selects yX8_found.cls yX8_found yX8_found ∈ lw_tbl := sl_in (q := (yX8_found, 12)) 0 (by decide +kernel)
theorem my_yX5_lay : gY yX5_lay cX5_lay 5 none 3 := ⟨tq2 89 rfl, tq1 2 rfl, ⟨by decide +kernel, by decide +kernel, by decide +kernel⟩, by decide⟩
theorem mi_yX5_lay : Cond.instanceMethod yX5_lay ∈ lw_tbl := tq2 87 rfl
theorem ms_yX5_lay : Cond.selects yX5_lay.cls yX5_lay yX5_lay ∈ lw_tbl := tq2 88 rfl
theorem my_yX8_fine : gY yX8_fine cX8_fine 3 (some .long) 1 := ⟨tq2 93 rfl, tq1 1 rfl, ⟨by decide +kernel, by decide +kernel, by decide +kernel⟩, by decide⟩
theorem mi_yX8_fine : Cond.instanceMethod yX8_fine ∈ lw_tbl := tq2 92 rfl
theorem ms_yX8_fine : Cond.selects yX8_fine.cls yX8_fine yX8_fine ∈ lw_tbl := sl_in (q := (yX8_fine, 12)) 1 (by decide +kernel)
theorem my_yX8_set : gY yX8_set cX8_set 4 (some .long) 3 := ⟨tq2 97 rfl, tq1 1 rfl, ⟨by decide +kernel, by decide +kernel, by decide +kernel⟩, by decide⟩
theorem mi_yX8_set : Cond.instanceMethod yX8_set ∈ lw_tbl := tq2 95 rfl
theorem ms_yX8_set : Cond.selects yX8_set.cls yX8_set yX8_set ∈ lw_tbl := tq2 96 rfl
theorem my_yX5_isMissing : gY yX5_isMissing cX5_isMissing 2 (some .boolean) 1 := ⟨tq2 101 rfl, tq1 2 rfl, ⟨by decide +kernel, by decide +kernel, by decide +kernel⟩, by decide⟩
theorem mi_yX5_isMissing : Cond.instanceMethod yX5_isMissing ∈ lw_tbl := tq2 99 rfl
theorem ms_yX5_isMissing : Cond.selects yX5_isMissing.cls yX5_isMissing yX5_isMissing ∈ lw_tbl := tq2 100 rfl
theorem my_yX5_hasItems : gY yX5_hasItems cX5_hasItems 4 (some .boolean) 3 := ⟨tq2 105 rfl, tq1 2 rfl, ⟨by decide +kernel, by decide +kernel, by decide +kernel⟩, by decide⟩
theorem mi_yX5_hasItems : Cond.instanceMethod yX5_hasItems ∈ lw_tbl := tq2 103 rfl
theorem ms_yX5_hasItems : Cond.selects yX5_hasItems.cls yX5_hasItems yX5_hasItems ∈ lw_tbl := tq2 104 rfl
theorem my_yX5_put : gY yX5_put cX5_put 5 (some .int) 3 := ⟨tq2 109 rfl, tq1 2 rfl, ⟨by decide +kernel, by decide +kernel, by decide +kernel⟩, by decide⟩
theorem mi_yX5_put : Cond.instanceMethod yX5_put ∈ lw_tbl := tq2 107 rfl
theorem ms_yX5_put : Cond.selects yX5_put.cls yX5_put yX5_put ∈ lw_tbl := tq2 108 rfl
theorem my_yX8_copy : gY yX8_copy cX8_copy 6 (some .long) 5 := ⟨tq2 113 rfl, tq1 1 rfl, ⟨by decide +kernel, by decide +kernel, by decide +kernel⟩, by decide⟩
theorem mi_yX8_copy : Cond.instanceMethod yX8_copy ∈ lw_tbl := tq2 111 rfl
theorem ms_yX8_copy : Cond.selects yX8_copy.cls yX8_copy yX8_copy ∈ lw_tbl := tq2 112 rfl
theorem my_yX5_bring : gY yX5_bring cX5_bring 6 none 5 := ⟨tq2 117 rfl, tq1 2 rfl, ⟨by decide +kernel, by decide +kernel, by decide +kernel⟩, by decide⟩
theorem mi_yX5_bring : Cond.instanceMethod yX5_bring ∈ lw_tbl := tq2 115 rfl
theorem ms_yX5_bring : Cond.selects yX5_bring.cls yX5_bring yX5_bring ∈ lw_tbl := tq2 116 rfl
theorem my_yX8_drop : gY yX8_drop cX8_drop 2 (some .long) 1 := ⟨tq2 124 rfl, tq1 1 rfl, ⟨by decide +kernel, by decide +kernel, by decide +kernel⟩, by decide⟩
theorem mi_yX8_drop : Cond.instanceMethod yX8_drop ∈ lw_tbl := tq2 122 rfl
theorem ms_yX8_drop : Cond.selects yX8_drop.cls yX8_drop yX8_drop ∈ lw_tbl := tq2 123 rfl
theorem my_yX5_remove : gY yX5_remove cX5_remove 3 (some .int) 1 := ⟨tq2 128 rfl, tq1 2 rfl, ⟨by decide +kernel, by decide +kernel, by decide +kernel⟩, by decide⟩
theorem mi_yX5_remove : Cond.instanceMethod yX5_remove ∈ lw_tbl := tq2 126 rfl
theorem ms_yX5_remove : Cond.selects yX5_remove.cls yX5_remove yX5_remove ∈ lw_tbl := tq2 127 rfl
theorem my_yX8_feed : gY yX8_feed cX8_feed 4 (some .long) 2 := ⟨tq2 132 rfl, tq1 1 rfl, ⟨by decide +kernel, by decide +kernel, by decide +kernel⟩, by decide⟩
theorem mi_yX8_feed : Cond.instanceMethod yX8_feed ∈ lw_tbl := tq2 130 rfl
theorem ms_yX8_feed : Cond.selects yX8_feed.cls yX8_feed yX8_feed ∈ lw_tbl := tq2 131 rfl
theorem my_yX7_push : gY yX7_push cX7_push 5 none 2 := ⟨tq2 137 rfl, tq1 4 rfl, ⟨by decide +kernel, by decide +kernel, by decide +kernel⟩, by decide⟩
theorem mi_yX7_push : Cond.instanceMethod yX7_push ∈ lw_tbl := tq2 135 rfl
theorem ms_yX7_push : Cond.selects yX7_push.cls yX7_push yX7_push ∈ lw_tbl := tq2 136 rfl
theorem my_yX8_game : gY yX8_game cX8_game 3 (some .long) 0 := ⟨tq2 141 rfl, tq1 1 rfl, ⟨by decide +kernel, by decide +kernel, by decide +kernel⟩, by decide⟩
theorem mi_yX8_game : Cond.instanceMethod yX8_game ∈ lw_tbl := tq2 139 rfl
theorem ms_yX8_game : Cond.selects yX8_game.cls yX8_game yX8_game ∈ lw_tbl := tq2 140 rfl
theorem my_yX4_readText : gY yX4_readText cX4_readText 3 (some .boolean) 2 := ⟨tq2 145 rfl, tq1 5 rfl, ⟨by decide +kernel, by decide +kernel, by decide +kernel⟩, by decide⟩
theorem mi_yX4_readText : Cond.instanceMethod yX4_readText ∈ lw_tbl := tq2 143 rfl
theorem ms_yX4_readText : Cond.selects yX4_readText.cls yX4_readText yX4_readText ∈ lw_tbl := tq2 144 rfl
theorem my_yX1_empty : gY yX1_empty cX1_empty 1 none 0 := ⟨tq2 149 rfl, tq1 10 rfl, ⟨by decide +kernel, by decide +kernel, by decide +kernel⟩, by decide⟩
theorem mi_yX1_empty : Cond.instanceMethod yX1_empty ∈ lw_tbl := tq2 147 rfl
theorem ms_yX1_empty : Cond.selects yX1_empty.cls yX1_empty yX1_empty ∈ lw_tbl := tq2 148 rfl
theorem my_yX7_rewind : gY yX7_rewind cX7_rewind 1 none 0 := ⟨tq2 153 rfl, tq1 4 rfl, ⟨by decide +kernel, by decide +kernel, by decide +kernel⟩, by decide⟩
theorem mi_yX7_rewind : Cond.instanceMethod yX7_rewind ∈ lw_tbl := tq2 151 rfl
theorem ms_yX7_rewind : Cond.selects yX7_rewind.cls yX7_rewind yX7_rewind ∈ lw_tbl := tq2 152 rfl
theorem my_yX7_step : gY yX7_step cX7_step 1 none 0 := ⟨tq2 157 rfl, tq1 4 rfl, ⟨by decide +kernel, by decide +kernel, by decide +kernel⟩, by decide⟩
theorem mi_yX7_step : Cond.instanceMethod yX7_step ∈ lw_tbl := tq2 155 rfl
theorem ms_yX7_step : Cond.selects yX7_step.cls yX7_step yX7_step ∈ lw_tbl := tq2 156 rfl
theorem my_yX7_isLetter : gY yX7_isLetter cX7_isLetter 1 (some .boolean) 1 := ⟨tq2 160 rfl, tq1 4 rfl, ⟨by decide +kernel, by decide +kernel, by decide +kernel⟩, by decide⟩
theorem mt_yX7_isLetter : Cond.static yX7_isLetter ∈ lw_tbl := tq2 159 rfl
theorem my_yX7_stepOverName : gY yX7_stepOverName cX7_stepOverName 1 none 0 := ⟨tq2 164 rfl, tq1 4 rfl, ⟨by decide +kernel, by decide +kernel, by decide +kernel⟩, by decide⟩
theorem mi_yX7_stepOverName : Cond.instanceMethod yX7_stepOverName ∈ lw_tbl := tq2 163 rfl
theorem ms_yX7_stepOverName : Cond.selects yX7_stepOverName.cls yX7_stepOverName yX7_stepOverName ∈ lw_tbl := sl_in (q := (yX7_stepOverName, 6)) 2 (by decide +kernel)
theorem my_yX7_isName : gY yX7_isName cX7_isName 3 (some .boolean) 1 := ⟨tq2 169 rfl, tq1 4 rfl, ⟨by decide +kernel, by decide +kernel, by decide +kernel⟩, by decide⟩
theorem mi_yX7_isName : Cond.instanceMethod yX7_isName ∈ lw_tbl := tq2 168 rfl
theorem ms_yX7_isName : Cond.selects yX7_isName.cls yX7_isName yX7_isName ∈ lw_tbl := sl_in (q := (yX7_isName, 6)) 3 (by decide +kernel)
theorem my_yJ0_length_8abf5 : gY yJ0_length_8abf5 cJ0_length_8abf5 1 (some .int) 0 := ⟨tq2 173 rfl, tq1 13 rfl, ⟨by decide +kernel, by decide +kernel, by decide +kernel⟩, by decide⟩
theorem mi_yJ0_length_8abf5 : Cond.instanceMethod yJ0_length_8abf5 ∈ lw_tbl := tq2 171 rfl
theorem ms_yJ0_length_8abf5 : Cond.selects yJ0_length_8abf5.cls yJ0_length_8abf5 yJ0_length_8abf5 ∈ lw_tbl := tq2 172 rfl
theorem my_yJ0_coder_7d493 : gY yJ0_coder_7d493 cJ0_coder_7d493 1 (some .byte) 0 := ⟨tq2 177 rfl, tq1 13 rfl, ⟨by decide +kernel, by decide +kernel, by decide +kernel⟩, by decide⟩
theorem mi_yJ0_coder_7d493 : Cond.instanceMethod yJ0_coder_7d493 ∈ lw_tbl := tq2 175 rfl
theorem ms_yJ0_coder_7d493 : Cond.selects yJ0_coder_7d493.cls yJ0_coder_7d493 yJ0_coder_7d493 ∈ lw_tbl := tq2 176 rfl
theorem my_yJ0_charAt_5068e : gY yJ0_charAt_5068e cJ0_charAt_5068e 2 (some .char) 1 := ⟨tq2 183 rfl, tq1 13 rfl, ⟨by decide +kernel, by decide +kernel, by decide +kernel⟩, by decide⟩
theorem mi_yJ0_charAt_5068e : Cond.instanceMethod yJ0_charAt_5068e ∈ lw_tbl := tq2 181 rfl
theorem ms_yJ0_charAt_5068e : Cond.selects yJ0_charAt_5068e.cls yJ0_charAt_5068e yJ0_charAt_5068e ∈ lw_tbl := tq2 182 rfl
theorem my_yJ0_isLatin1_aae02 : gY yJ0_isLatin1_aae02 cJ0_isLatin1_aae02 1 (some .boolean) 0 := ⟨tq2 187 rfl, tq1 13 rfl, ⟨by decide +kernel, by decide +kernel, by decide +kernel⟩, by decide⟩
theorem mi_yJ0_isLatin1_aae02 : Cond.instanceMethod yJ0_isLatin1_aae02 ∈ lw_tbl := tq2 185 rfl
theorem ms_yJ0_isLatin1_aae02 : Cond.selects yJ0_isLatin1_aae02.cls yJ0_isLatin1_aae02 yJ0_isLatin1_aae02 ∈ lw_tbl := tq2 186 rfl
theorem my_yJ1_charAt_3b067 : gY yJ1_charAt_3b067 cJ1_charAt_3b067 2 (some .char) 2 := ⟨tq2 190 rfl, tq1 14 rfl, ⟨by decide +kernel, by decide +kernel, by decide +kernel⟩, by decide⟩
theorem mt_yJ1_charAt_3b067 : Cond.static yJ1_charAt_3b067 ∈ lw_tbl := tq2 189 rfl
theorem my_yJ0_checkIndex_df160 : gY yJ0_checkIndex_df160 cJ0_checkIndex_df160 2 none 2 := ⟨tq2 193 rfl, tq1 13 rfl, ⟨by decide +kernel, by decide +kernel, by decide +kernel⟩, by decide⟩
theorem mt_yJ0_checkIndex_df160 : Cond.static yJ0_checkIndex_df160 ∈ lw_tbl := tq2 192 rfl
theorem my_yX7_isFigure : gY yX7_isFigure cX7_isFigure 1 (some .boolean) 1 := ⟨tq2 223 rfl, tq1 4 rfl, ⟨by decide +kernel, by decide +kernel, by decide +kernel⟩, by decide⟩
theorem mt_yX7_isFigure : Cond.static yX7_isFigure ∈ lw_tbl := tq2 222 rfl
theorem my_yX7_stepOverNumber : gY yX7_stepOverNumber cX7_stepOverNumber 1 none 0 := ⟨tq2 227 rfl, tq1 4 rfl, ⟨by decide +kernel, by decide +kernel, by decide +kernel⟩, by decide⟩
theorem mi_yX7_stepOverNumber : Cond.instanceMethod yX7_stepOverNumber ∈ lw_tbl := tq2 226 rfl
theorem ms_yX7_stepOverNumber : Cond.selects yX7_stepOverNumber.cls yX7_stepOverNumber yX7_stepOverNumber ∈ lw_tbl := sl_in (q := (yX7_stepOverNumber, 6)) 4 (by decide +kernel)
theorem my_yX4_readPlace : gY yX4_readPlace cX4_readPlace 9 (some .boolean) 5 := ⟨tq2 232 rfl, tq1 5 rfl, ⟨by decide +kernel, by decide +kernel, by decide +kernel⟩, by decide⟩
theorem mi_yX4_readPlace : Cond.instanceMethod yX4_readPlace ∈ lw_tbl := tq2 231 rfl
theorem ms_yX4_readPlace : Cond.selects yX4_readPlace.cls yX4_readPlace yX4_readPlace ∈ lw_tbl := sl_in (q := (yX4_readPlace, 2)) 5 (by decide +kernel)
theorem my_yX4_fail : gY yX4_fail cX4_fail 3 (some .boolean) 2 := ⟨tq2 236 rfl, tq1 5 rfl, ⟨by decide +kernel, by decide +kernel, by decide +kernel⟩, by decide⟩
theorem mi_yX4_fail : Cond.instanceMethod yX4_fail ∈ lw_tbl := tq2 235 rfl
theorem ms_yX4_fail : Cond.selects yX4_fail.cls yX4_fail yX4_fail ∈ lw_tbl := sl_in (q := (yX4_fail, 2)) 6 (by decide +kernel)
theorem my_yX1_add : gY yX1_add cX1_add 7 (some .int) 5 := ⟨tq3 0 rfl, tq1 10 rfl, ⟨by decide +kernel, by decide +kernel, by decide +kernel⟩, by decide⟩
theorem mi_yX1_add : Cond.instanceMethod yX1_add ∈ lw_tbl := tq2 238 rfl
theorem ms_yX1_add : Cond.selects yX1_add.cls yX1_add yX1_add ∈ lw_tbl := tq2 239 rfl
theorem my_yX4_readPay : gY yX4_readPay cX4_readPay 4 (some .boolean) 3 := ⟨tq3 5 rfl, tq1 5 rfl, ⟨by decide +kernel, by decide +kernel, by decide +kernel⟩, by decide⟩
theorem mi_yX4_readPay : Cond.instanceMethod yX4_readPay ∈ lw_tbl := tq3 4 rfl
theorem ms_yX4_readPay : Cond.selects yX4_readPay.cls yX4_readPay yX4_readPay ∈ lw_tbl := sl_in (q := (yX4_readPay, 2)) 7 (by decide +kernel)
theorem my_yX4_readDeal : gY yX4_readDeal cX4_readDeal 9 (some .boolean) 3 := ⟨tq3 9 rfl, tq1 5 rfl, ⟨by decide +kernel, by decide +kernel, by decide +kernel⟩, by decide⟩
theorem mi_yX4_readDeal : Cond.instanceMethod yX4_readDeal ∈ lw_tbl := tq3 8 rfl
theorem ms_yX4_readDeal : Cond.selects yX4_readDeal.cls yX4_readDeal yX4_readDeal ∈ lw_tbl := sl_in (q := (yX4_readDeal, 2)) 8 (by decide +kernel)
theorem my_yX4_readHeld : gY yX4_readHeld cX4_readHeld 7 (some .boolean) 3 := ⟨tq3 13 rfl, tq1 5 rfl, ⟨by decide +kernel, by decide +kernel, by decide +kernel⟩, by decide⟩
theorem mi_yX4_readHeld : Cond.instanceMethod yX4_readHeld ∈ lw_tbl := tq3 12 rfl
theorem ms_yX4_readHeld : Cond.selects yX4_readHeld.cls yX4_readHeld yX4_readHeld ∈ lw_tbl := sl_in (q := (yX4_readHeld, 2)) 9 (by decide +kernel)
theorem my_yX1_maySetBeOf : gY yX1_maySetBeOf cX1_maySetBeOf 3 (some .boolean) 2 := ⟨tq3 17 rfl, tq1 10 rfl, ⟨by decide +kernel, by decide +kernel, by decide +kernel⟩, by decide⟩
theorem mi_yX1_maySetBeOf : Cond.instanceMethod yX1_maySetBeOf ∈ lw_tbl := tq3 15 rfl
theorem ms_yX1_maySetBeOf : Cond.selects yX1_maySetBeOf.cls yX1_maySetBeOf yX1_maySetBeOf ∈ lw_tbl := tq3 16 rfl
theorem my_yX1_maySetHave : gY yX1_maySetHave cX1_maySetHave 3 (some .boolean) 2 := ⟨tq3 21 rfl, tq1 10 rfl, ⟨by decide +kernel, by decide +kernel, by decide +kernel⟩, by decide⟩
theorem mi_yX1_maySetHave : Cond.instanceMethod yX1_maySetHave ∈ lw_tbl := tq3 19 rfl
theorem ms_yX1_maySetHave : Cond.selects yX1_maySetHave.cls yX1_maySetHave yX1_maySetHave ∈ lw_tbl := tq3 20 rfl
theorem my_yX1_putIntoSet : gY yX1_putIntoSet cX1_putIntoSet 4 none 3 := ⟨tq3 25 rfl, tq1 10 rfl, ⟨by decide +kernel, by decide +kernel, by decide +kernel⟩, by decide⟩
theorem mi_yX1_putIntoSet : Cond.instanceMethod yX1_putIntoSet ∈ lw_tbl := tq3 23 rfl
theorem ms_yX1_putIntoSet : Cond.selects yX1_putIntoSet.cls yX1_putIntoSet yX1_putIntoSet ∈ lw_tbl := tq3 24 rfl
theorem my_yX1_finish : gY yX1_finish cX1_finish 5 none 0 := ⟨tq3 29 rfl, tq1 10 rfl, ⟨by decide +kernel, by decide +kernel, by decide +kernel⟩, by decide⟩
theorem mi_yX1_finish : Cond.instanceMethod yX1_finish ∈ lw_tbl := tq3 27 rfl
theorem ms_yX1_finish : Cond.selects yX1_finish.cls yX1_finish yX1_finish ∈ lw_tbl := tq3 28 rfl
theorem my_yX1_tellPast : gY yX1_tellPast cX1_tellPast 5 none 1 := ⟨tq3 33 rfl, tq1 10 rfl, ⟨by decide +kernel, by decide +kernel, by decide +kernel⟩, by decide⟩
theorem mi_yX1_tellPast : Cond.instanceMethod yX1_tellPast ∈ lw_tbl := tq3 32 rfl
theorem ms_yX1_tellPast : Cond.selects yX1_tellPast.cls yX1_tellPast yX1_tellPast ∈ lw_tbl := sl_in (q := (yX1_tellPast, 18)) 10 (by decide +kernel)
theorem my_yX1_isHeld : gY yX1_isHeld cX1_isHeld 2 (some .boolean) 1 := ⟨tq3 38 rfl, tq1 10 rfl, ⟨by decide +kernel, by decide +kernel, by decide +kernel⟩, by decide⟩
theorem mi_yX1_isHeld : Cond.instanceMethod yX1_isHeld ∈ lw_tbl := tq3 36 rfl
theorem ms_yX1_isHeld : Cond.selects yX1_isHeld.cls yX1_isHeld yX1_isHeld ∈ lw_tbl := tq3 37 rfl
theorem my_yX3_begin : gY yX3_begin cX3_begin 2 none 0 := ⟨tq3 43 rfl, tq1 6 rfl, ⟨by decide +kernel, by decide +kernel, by decide +kernel⟩, by decide⟩
theorem mi_yX3_begin : Cond.instanceMethod yX3_begin ∈ lw_tbl := tq3 41 rfl
theorem ms_yX3_begin : Cond.selects yX3_begin.cls yX3_begin yX3_begin ∈ lw_tbl := tq3 42 rfl
theorem my_yX3_giveAllTo : gY yX3_giveAllTo cX3_giveAllTo 4 none 2 := ⟨tq3 47 rfl, tq1 6 rfl, ⟨by decide +kernel, by decide +kernel, by decide +kernel⟩, by decide⟩
theorem mi_yX3_giveAllTo : Cond.instanceMethod yX3_giveAllTo ∈ lw_tbl := tq3 45 rfl
theorem ms_yX3_giveAllTo : Cond.selects yX3_giveAllTo.cls yX3_giveAllTo yX3_giveAllTo ∈ lw_tbl := tq3 46 rfl
theorem my_yX3_give : gY yX3_give cX3_give 4 none 3 := ⟨tq3 51 rfl, tq1 6 rfl, ⟨by decide +kernel, by decide +kernel, by decide +kernel⟩, by decide⟩
theorem mi_yX3_give : Cond.instanceMethod yX3_give ∈ lw_tbl := tq3 49 rfl
theorem ms_yX3_give : Cond.selects yX3_give.cls yX3_give yX3_give ∈ lw_tbl := tq3 50 rfl
theorem my_yX2_begin : gY yX2_begin cX2_begin 1 none 0 := ⟨tq3 55 rfl, tq1 8 rfl, ⟨by decide +kernel, by decide +kernel, by decide +kernel⟩, by decide⟩
theorem mi_yX2_begin : Cond.instanceMethod yX2_begin ∈ lw_tbl := tq3 53 rfl
theorem ms_yX2_begin : Cond.selects yX2_begin.cls yX2_begin yX2_begin ∈ lw_tbl := tq3 54 rfl
theorem my_yJ7_fill_d0a16 : gY yJ7_fill_d0a16 cJ7_fill_d0a16 5 none 2 := ⟨tq3 58 rfl, tq1 3 rfl, ⟨by decide +kernel, by decide +kernel, by decide +kernel⟩, by decide⟩
theorem mt_yJ7_fill_d0a16 : Cond.static yJ7_fill_d0a16 ∈ lw_tbl := tq3 57 rfl
theorem my_yX8_fault : gY yX8_fault cX8_fault 1 (some .int) 0 := ⟨tq3 62 rfl, tq1 1 rfl, ⟨by decide +kernel, by decide +kernel, by decide +kernel⟩, by decide⟩
theorem mi_yX8_fault : Cond.instanceMethod yX8_fault ∈ lw_tbl := tq3 60 rfl
theorem ms_yX8_fault : Cond.selects yX8_fault.cls yX8_fault yX8_fault ∈ lw_tbl := tq3 61 rfl
theorem my_yX8_place : gY yX8_place cX8_place 3 (some .long) 2 := ⟨tq3 66 rfl, tq1 1 rfl, ⟨by decide +kernel, by decide +kernel, by decide +kernel⟩, by decide⟩
theorem mi_yX8_place : Cond.instanceMethod yX8_place ∈ lw_tbl := tq3 64 rfl
theorem ms_yX8_place : Cond.selects yX8_place.cls yX8_place yX8_place ∈ lw_tbl := tq3 65 rfl
theorem my_yX8_isPlace : gY yX8_isPlace cX8_isPlace 2 (some .boolean) 1 := ⟨tq3 70 rfl, tq1 1 rfl, ⟨by decide +kernel, by decide +kernel, by decide +kernel⟩, by decide⟩
theorem mi_yX8_isPlace : Cond.instanceMethod yX8_isPlace ∈ lw_tbl := tq3 69 rfl
theorem ms_yX8_isPlace : Cond.selects yX8_isPlace.cls yX8_isPlace yX8_isPlace ∈ lw_tbl := sl_in (q := (yX8_isPlace, 12)) 11 (by decide +kernel)
theorem my_yX8_seen : gY yX8_seen cX8_seen 3 (some .long) 2 := ⟨tq3 74 rfl, tq1 1 rfl, ⟨by decide +kernel, by decide +kernel, by decide +kernel⟩, by decide⟩
theorem mi_yX8_seen : Cond.instanceMethod yX8_seen ∈ lw_tbl := tq3 72 rfl
theorem ms_yX8_seen : Cond.selects yX8_seen.cls yX8_seen yX8_seen ∈ lw_tbl := tq3 73 rfl
theorem my_yX8_forgets : gY yX8_forgets cX8_forgets 2 (some .long) 1 := ⟨tq3 78 rfl, tq1 1 rfl, ⟨by decide +kernel, by decide +kernel, by decide +kernel⟩, by decide⟩
theorem mi_yX8_forgets : Cond.instanceMethod yX8_forgets ∈ lw_tbl := tq3 76 rfl
theorem ms_yX8_forgets : Cond.selects yX8_forgets.cls yX8_forgets yX8_forgets ∈ lw_tbl := tq3 77 rfl
theorem my_yX8_isPlayer : gY yX8_isPlayer cX8_isPlayer 1 (some .boolean) 1 := ⟨tq3 81 rfl, tq1 1 rfl, ⟨by decide +kernel, by decide +kernel, by decide +kernel⟩, by decide⟩
theorem mt_yX8_isPlayer : Cond.static yX8_isPlayer ∈ lw_tbl := tq3 80 rfl
theorem my_yX8_mix : gY yX8_mix cX8_mix 6 (some .long) 3 := ⟨tq3 85 rfl, tq1 1 rfl, ⟨by decide +kernel, by decide +kernel, by decide +kernel⟩, by decide⟩
theorem mi_yX8_mix : Cond.instanceMethod yX8_mix ∈ lw_tbl := tq3 83 rfl
theorem ms_yX8_mix : Cond.selects yX8_mix.cls yX8_mix yX8_mix ∈ lw_tbl := tq3 84 rfl
theorem my_yX8_isSet : gY yX8_isSet cX8_isSet 2 (some .boolean) 1 := ⟨tq3 89 rfl, tq1 1 rfl, ⟨by decide +kernel, by decide +kernel, by decide +kernel⟩, by decide⟩
theorem mi_yX8_isSet : Cond.instanceMethod yX8_isSet ∈ lw_tbl := tq3 88 rfl
theorem ms_yX8_isSet : Cond.selects yX8_isSet.cls yX8_isSet yX8_isSet ∈ lw_tbl := sl_in (q := (yX8_isSet, 12)) 12 (by decide +kernel)
theorem my_yX5_hasShares : gY yX5_hasShares cX5_hasShares 7 (some .boolean) 3 := ⟨tq3 93 rfl, tq1 2 rfl, ⟨by decide +kernel, by decide +kernel, by decide +kernel⟩, by decide⟩
theorem mi_yX5_hasShares : Cond.instanceMethod yX5_hasShares ∈ lw_tbl := tq3 91 rfl
theorem ms_yX5_hasShares : Cond.selects yX5_hasShares.cls yX5_hasShares yX5_hasShares ∈ lw_tbl := tq3 92 rfl
theorem my_yX5_itemAt : gY yX5_itemAt cX5_itemAt 3 (some .int) 2 := ⟨tq3 97 rfl, tq1 2 rfl, ⟨by decide +kernel, by decide +kernel, by decide +kernel⟩, by decide⟩
theorem mi_yX5_itemAt : Cond.instanceMethod yX5_itemAt ∈ lw_tbl := tq3 95 rfl
theorem ms_yX5_itemAt : Cond.selects yX5_itemAt.cls yX5_itemAt yX5_itemAt ∈ lw_tbl := tq3 96 rfl
theorem my_yX8_share : gY yX8_share cX8_share 3 (some .long) 2 := ⟨tq3 103 rfl, tq1 1 rfl, ⟨by decide +kernel, by decide +kernel, by decide +kernel⟩, by decide⟩
theorem mi_yX8_share : Cond.instanceMethod yX8_share ∈ lw_tbl := tq3 101 rfl
theorem ms_yX8_share : Cond.selects yX8_share.cls yX8_share yX8_share ∈ lw_tbl := tq3 102 rfl
theorem my_yX8_isAct : gY yX8_isAct cX8_isAct 3 (some .boolean) 2 := ⟨tq3 107 rfl, tq1 1 rfl, ⟨by decide +kernel, by decide +kernel, by decide +kernel⟩, by decide⟩
theorem mi_yX8_isAct : Cond.instanceMethod yX8_isAct ∈ lw_tbl := tq3 106 rfl
theorem ms_yX8_isAct : Cond.selects yX8_isAct.cls yX8_isAct yX8_isAct ∈ lw_tbl := sl_in (q := (yX8_isAct, 12)) 13 (by decide +kernel)
theorem my_yX3_shareOf : gY yX3_shareOf cX3_shareOf 3 (some .int) 2 := ⟨tq3 111 rfl, tq1 6 rfl, ⟨by decide +kernel, by decide +kernel, by decide +kernel⟩, by decide⟩
theorem mi_yX3_shareOf : Cond.instanceMethod yX3_shareOf ∈ lw_tbl := tq3 109 rfl
theorem ms_yX3_shareOf : Cond.selects yX3_shareOf.cls yX3_shareOf yX3_shareOf ∈ lw_tbl := tq3 110 rfl
theorem my_yX8_value : gY yX8_value cX8_value 1 (some .long) 0 := ⟨tq3 115 rfl, tq1 1 rfl, ⟨by decide +kernel, by decide +kernel, by decide +kernel⟩, by decide⟩
theorem mi_yX8_value : Cond.instanceMethod yX8_value ∈ lw_tbl := tq3 113 rfl
theorem ms_yX8_value : Cond.selects yX8_value.cls yX8_value yX8_value ∈ lw_tbl := tq3 114 rfl
theorem my_yX8_hasGame : gY yX8_hasGame cX8_hasGame 1 (some .boolean) 0 := ⟨tq3 119 rfl, tq1 1 rfl, ⟨by decide +kernel, by decide +kernel, by decide +kernel⟩, by decide⟩
theorem mi_yX8_hasGame : Cond.instanceMethod yX8_hasGame ∈ lw_tbl := tq3 118 rfl
theorem ms_yX8_hasGame : Cond.selects yX8_hasGame.cls yX8_hasGame yX8_hasGame ∈ lw_tbl := sl_in (q := (yX8_hasGame, 12)) 14 (by decide +kernel)
theorem my_yX8_valueOfPlan : gY yX8_valueOfPlan cX8_valueOfPlan 4 (some .long) 0 := ⟨tq3 123 rfl, tq1 1 rfl, ⟨by decide +kernel, by decide +kernel, by decide +kernel⟩, by decide⟩
theorem mi_yX8_valueOfPlan : Cond.instanceMethod yX8_valueOfPlan ∈ lw_tbl := tq3 122 rfl
theorem ms_yX8_valueOfPlan : Cond.selects yX8_valueOfPlan.cls yX8_valueOfPlan yX8_valueOfPlan ∈ lw_tbl := sl_in (q := (yX8_valueOfPlan, 12)) 15 (by decide +kernel)
theorem my_yX3_workOut : gY yX3_workOut cX3_workOut 7 none 3 := ⟨tq3 128 rfl, tq1 6 rfl, ⟨by decide +kernel, by decide +kernel, by decide +kernel⟩, by decide⟩
theorem mi_yX3_workOut : Cond.instanceMethod yX3_workOut ∈ lw_tbl := tq3 126 rfl
theorem ms_yX3_workOut : Cond.selects yX3_workOut.cls yX3_workOut yX3_workOut ∈ lw_tbl := tq3 127 rfl
theorem my_yX8_reach : gY yX8_reach cX8_reach 3 (some .long) 2 := ⟨tq3 136 rfl, tq1 1 rfl, ⟨by decide +kernel, by decide +kernel, by decide +kernel⟩, by decide⟩
theorem mi_yX8_reach : Cond.instanceMethod yX8_reach ∈ lw_tbl := tq3 134 rfl
theorem ms_yX8_reach : Cond.selects yX8_reach.cls yX8_reach yX8_reach ∈ lw_tbl := tq3 135 rfl
theorem my_yX8_best : gY yX8_best cX8_best 6 (some .long) 2 := ⟨tq3 140 rfl, tq1 1 rfl, ⟨by decide +kernel, by decide +kernel, by decide +kernel⟩, by decide⟩
theorem mi_yX8_best : Cond.instanceMethod yX8_best ∈ lw_tbl := tq3 138 rfl
theorem ms_yX8_best : Cond.selects yX8_best.cls yX8_best yX8_best ∈ lw_tbl := tq3 139 rfl
theorem my_yX8_valueOfAnswer : gY yX8_valueOfAnswer cX8_valueOfAnswer 2 (some .long) 1 := ⟨tq3 144 rfl, tq1 1 rfl, ⟨by decide +kernel, by decide +kernel, by decide +kernel⟩, by decide⟩
theorem mi_yX8_valueOfAnswer : Cond.instanceMethod yX8_valueOfAnswer ∈ lw_tbl := tq3 143 rfl
theorem ms_yX8_valueOfAnswer : Cond.selects yX8_valueOfAnswer.cls yX8_valueOfAnswer yX8_valueOfAnswer ∈ lw_tbl := sl_in (q := (yX8_valueOfAnswer, 12)) 16 (by decide +kernel)
theorem my_yX6_solve : gY yX6_solve cX6_solve 6 (some .long) 4 := ⟨tq3 148 rfl, tq1 7 rfl, ⟨by decide +kernel, by decide +kernel, by decide +kernel⟩, by decide⟩
theorem mi_yX6_solve : Cond.instanceMethod yX6_solve ∈ lw_tbl := tq3 146 rfl
theorem ms_yX6_solve : Cond.selects yX6_solve.cls yX6_solve yX6_solve ∈ lw_tbl := tq3 147 rfl
theorem my_yX6_tellGroups : gY yX6_tellGroups cX6_tellGroups 4 none 2 := ⟨tq3 152 rfl, tq1 7 rfl, ⟨by decide +kernel, by decide +kernel, by decide +kernel⟩, by decide⟩
theorem mi_yX6_tellGroups : Cond.instanceMethod yX6_tellGroups ∈ lw_tbl := tq3 151 rfl
theorem ms_yX6_tellGroups : Cond.selects yX6_tellGroups.cls yX6_tellGroups yX6_tellGroups ∈ lw_tbl := sl_in (q := (yX6_tellGroups, 7)) 17 (by decide +kernel)
theorem my_yX6_leastAlike : gY yX6_leastAlike cX6_leastAlike 4 (some .int) 2 := ⟨tq3 157 rfl, tq1 7 rfl, ⟨by decide +kernel, by decide +kernel, by decide +kernel⟩, by decide⟩
theorem mi_yX6_leastAlike : Cond.instanceMethod yX6_leastAlike ∈ lw_tbl := tq3 156 rfl
theorem ms_yX6_leastAlike : Cond.selects yX6_leastAlike.cls yX6_leastAlike yX6_leastAlike ∈ lw_tbl := sl_in (q := (yX6_leastAlike, 7)) 18 (by decide +kernel)
theorem my_yX1_mostOwnActs : gY yX1_mostOwnActs cX1_mostOwnActs 4 (some .int) 1 := ⟨tq3 161 rfl, tq1 10 rfl, ⟨by decide +kernel, by decide +kernel, by decide +kernel⟩, by decide⟩
theorem mi_yX1_mostOwnActs : Cond.instanceMethod yX1_mostOwnActs ∈ lw_tbl := tq3 159 rfl
theorem ms_yX1_mostOwnActs : Cond.selects yX1_mostOwnActs.cls yX1_mostOwnActs yX1_mostOwnActs ∈ lw_tbl := tq3 160 rfl
theorem my_yX1_ownActsTo : gY yX1_ownActsTo cX1_ownActsTo 3 (some .int) 2 := ⟨tq3 165 rfl, tq1 10 rfl, ⟨by decide +kernel, by decide +kernel, by decide +kernel⟩, by decide⟩
theorem mi_yX1_ownActsTo : Cond.instanceMethod yX1_ownActsTo ∈ lw_tbl := tq3 163 rfl
theorem ms_yX1_ownActsTo : Cond.selects yX1_ownActsTo.cls yX1_ownActsTo yX1_ownActsTo ∈ lw_tbl := tq3 164 rfl
theorem my_yJ9_max_7cf53 : gY yJ9_max_7cf53 cJ9_max_7cf53 2 (some .int) 2 := ⟨tq3 168 rfl, tq1 17 rfl, ⟨by decide +kernel, by decide +kernel, by decide +kernel⟩, by decide⟩
theorem mt_yJ9_max_7cf53 : Cond.static yJ9_max_7cf53 ∈ lw_tbl := tq3 167 rfl
theorem my_yX6_addUp : gY yX6_addUp cX6_addUp 9 none 3 := ⟨tq3 172 rfl, tq1 7 rfl, ⟨by decide +kernel, by decide +kernel, by decide +kernel⟩, by decide⟩
theorem mi_yX6_addUp : Cond.instanceMethod yX6_addUp ∈ lw_tbl := tq3 171 rfl
theorem ms_yX6_addUp : Cond.selects yX6_addUp.cls yX6_addUp yX6_addUp ∈ lw_tbl := sl_in (q := (yX6_addUp, 7)) 19 (by decide +kernel)
theorem my_yX6_isOwn : gY yX6_isOwn cX6_isOwn 4 (some .boolean) 4 := ⟨tq3 175 rfl, tq1 7 rfl, ⟨by decide +kernel, by decide +kernel, by decide +kernel⟩, by decide⟩
theorem mt_yX6_isOwn : Cond.static yX6_isOwn ∈ lw_tbl := tq3 174 rfl
theorem my_yX1_wayTo : gY yX1_wayTo cX1_wayTo 3 (some .int) 2 := ⟨tq3 180 rfl, tq1 10 rfl, ⟨by decide +kernel, by decide +kernel, by decide +kernel⟩, by decide⟩
theorem mi_yX1_wayTo : Cond.instanceMethod yX1_wayTo ∈ lw_tbl := tq3 178 rfl
theorem ms_yX1_wayTo : Cond.selects yX1_wayTo.cls yX1_wayTo yX1_wayTo ∈ lw_tbl := tq3 179 rfl
theorem my_yX6_chooseActs : gY yX6_chooseActs cX6_chooseActs 5 none 3 := ⟨tq3 184 rfl, tq1 7 rfl, ⟨by decide +kernel, by decide +kernel, by decide +kernel⟩, by decide⟩
theorem mi_yX6_chooseActs : Cond.instanceMethod yX6_chooseActs ∈ lw_tbl := tq3 183 rfl
theorem ms_yX6_chooseActs : Cond.selects yX6_chooseActs.cls yX6_chooseActs yX6_chooseActs ∈ lw_tbl := sl_in (q := (yX6_chooseActs, 7)) 20 (by decide +kernel)
theorem my_yX6_chooseAct : gY yX6_chooseAct cX6_chooseAct 9 (some .int) 3 := ⟨tq3 188 rfl, tq1 7 rfl, ⟨by decide +kernel, by decide +kernel, by decide +kernel⟩, by decide⟩
theorem mi_yX6_chooseAct : Cond.instanceMethod yX6_chooseAct ∈ lw_tbl := tq3 187 rfl
theorem ms_yX6_chooseAct : Cond.selects yX6_chooseAct.cls yX6_chooseAct yX6_chooseAct ∈ lw_tbl := sl_in (q := (yX6_chooseAct, 7)) 21 (by decide +kernel)
theorem my_yX6_isBarred : gY yX6_isBarred cX6_isBarred 4 (some .boolean) 3 := ⟨tq3 192 rfl, tq1 7 rfl, ⟨by decide +kernel, by decide +kernel, by decide +kernel⟩, by decide⟩
theorem mi_yX6_isBarred : Cond.instanceMethod yX6_isBarred ∈ lw_tbl := tq3 191 rfl
theorem ms_yX6_isBarred : Cond.selects yX6_isBarred.cls yX6_isBarred yX6_isBarred ∈ lw_tbl := sl_in (q := (yX6_isBarred, 7)) 22 (by decide +kernel)
theorem my_yX8_gainOf : gY yX8_gainOf cX8_gainOf 5 (some .long) 3 := ⟨tq3 195 rfl, tq1 1 rfl, ⟨by decide +kernel, by decide +kernel, by decide +kernel⟩, by decide⟩
theorem mt_yX8_gainOf : Cond.static yX8_gainOf ∈ lw_tbl := tq3 194 rfl
theorem my_yX6_weigh : gY yX6_weigh cX6_weigh 6 none 4 := ⟨tq3 199 rfl, tq1 7 rfl, ⟨by decide +kernel, by decide +kernel, by decide +kernel⟩, by decide⟩
theorem mi_yX6_weigh : Cond.instanceMethod yX6_weigh ∈ lw_tbl := tq3 198 rfl
theorem ms_yX6_weigh : Cond.selects yX6_weigh.cls yX6_weigh yX6_weigh ∈ lw_tbl := sl_in (q := (yX6_weigh, 7)) 23 (by decide +kernel)
theorem my_yX6_worthOf : gY yX6_worthOf cX6_worthOf 9 (some .long) 4 := ⟨tq3 203 rfl, tq1 7 rfl, ⟨by decide +kernel, by decide +kernel, by decide +kernel⟩, by decide⟩
theorem mi_yX6_worthOf : Cond.instanceMethod yX6_worthOf ∈ lw_tbl := tq3 202 rfl
theorem ms_yX6_worthOf : Cond.selects yX6_worthOf.cls yX6_worthOf yX6_worthOf ∈ lw_tbl := sl_in (q := (yX6_worthOf, 7)) 24 (by decide +kernel)
theorem my_yX8_answer : gY yX8_answer cX8_answer 3 (some .long) 1 := ⟨tq3 208 rfl, tq1 1 rfl, ⟨by decide +kernel, by decide +kernel, by decide +kernel⟩, by decide⟩
theorem mi_yX8_answer : Cond.instanceMethod yX8_answer ∈ lw_tbl := tq3 206 rfl
theorem ms_yX8_answer : Cond.selects yX8_answer.cls yX8_answer yX8_answer ∈ lw_tbl := tq3 207 rfl
theorem my_yX6_actOf : gY yX6_actOf cX6_actOf 3 (some .int) 2 := ⟨tq3 212 rfl, tq1 7 rfl, ⟨by decide +kernel, by decide +kernel, by decide +kernel⟩, by decide⟩
theorem mi_yX6_actOf : Cond.instanceMethod yX6_actOf ∈ lw_tbl := tq3 210 rfl
theorem ms_yX6_actOf : Cond.selects yX6_actOf.cls yX6_actOf yX6_actOf ∈ lw_tbl := tq3 211 rfl
theorem my_yX8_belief : gY yX8_belief cX8_belief 6 (some .long) 2 := ⟨tq3 216 rfl, tq1 1 rfl, ⟨by decide +kernel, by decide +kernel, by decide +kernel⟩, by decide⟩
theorem mi_yX8_belief : Cond.instanceMethod yX8_belief ∈ lw_tbl := tq3 214 rfl
theorem ms_yX8_belief : Cond.selects yX8_belief.cls yX8_belief yX8_belief ∈ lw_tbl := tq3 215 rfl
theorem my_yX8_seeing : gY yX8_seeing cX8_seeing 5 (some .long) 1 := ⟨tq3 221 rfl, tq1 1 rfl, ⟨by decide +kernel, by decide +kernel, by decide +kernel⟩, by decide⟩
theorem mi_yX8_seeing : Cond.instanceMethod yX8_seeing ∈ lw_tbl := tq3 219 rfl
theorem ms_yX8_seeing : Cond.selects yX8_seeing.cls yX8_seeing yX8_seeing ∈ lw_tbl := tq3 220 rfl
theorem my_yX8_fewer : gY yX8_fewer cX8_fewer 4 (some .long) 2 := ⟨tq3 225 rfl, tq1 1 rfl, ⟨by decide +kernel, by decide +kernel, by decide +kernel⟩, by decide⟩
theorem mi_yX8_fewer : Cond.instanceMethod yX8_fewer ∈ lw_tbl := tq3 223 rfl
theorem ms_yX8_fewer : Cond.selects yX8_fewer.cls yX8_fewer yX8_fewer ∈ lw_tbl := tq3 224 rfl
theorem my_yX6_solveBarred : gY yX6_solveBarred cX6_solveBarred 8 (some .long) 5 := ⟨tq3 229 rfl, tq1 7 rfl, ⟨by decide +kernel, by decide +kernel, by decide +kernel⟩, by decide⟩
theorem mi_yX6_solveBarred : Cond.instanceMethod yX6_solveBarred ∈ lw_tbl := tq3 227 rfl
theorem ms_yX6_solveBarred : Cond.selects yX6_solveBarred.cls yX6_solveBarred yX6_solveBarred ∈ lw_tbl := tq3 228 rfl
theorem my_yX8_rounds : gY yX8_rounds cX8_rounds 4 (some .long) 1 := ⟨tq3 234 rfl, tq1 1 rfl, ⟨by decide +kernel, by decide +kernel, by decide +kernel⟩, by decide⟩
theorem mi_yX8_rounds : Cond.instanceMethod yX8_rounds ∈ lw_tbl := tq3 232 rfl
theorem ms_yX8_rounds : Cond.selects yX8_rounds.cls yX8_rounds yX8_rounds ∈ lw_tbl := tq3 233 rfl
theorem my_yJ9_min_7cf53 : gY yJ9_min_7cf53 cJ9_min_7cf53 2 (some .int) 2 := ⟨tq3 237 rfl, tq1 17 rfl, ⟨by decide +kernel, by decide +kernel, by decide +kernel⟩, by decide⟩
theorem mt_yJ9_min_7cf53 : Cond.static yJ9_min_7cf53 ∈ lw_tbl := tq3 236 rfl
theorem my_yX2_playOn : gY yX2_playOn cX2_playOn 4 none 2 := ⟨tq4 1 rfl, tq1 8 rfl, ⟨by decide +kernel, by decide +kernel, by decide +kernel⟩, by decide⟩
theorem mi_yX2_playOn : Cond.instanceMethod yX2_playOn ∈ lw_tbl := tq3 239 rfl
theorem ms_yX2_playOn : Cond.selects yX2_playOn.cls yX2_playOn yX2_playOn ∈ lw_tbl := tq4 0 rfl
theorem my_yX2_noteAnswer : gY yX2_noteAnswer cX2_noteAnswer 5 none 3 := ⟨tq4 5 rfl, tq1 8 rfl, ⟨by decide +kernel, by decide +kernel, by decide +kernel⟩, by decide⟩
theorem mi_yX2_noteAnswer : Cond.instanceMethod yX2_noteAnswer ∈ lw_tbl := tq4 4 rfl
theorem ms_yX2_noteAnswer : Cond.selects yX2_noteAnswer.cls yX2_noteAnswer yX2_noteAnswer ∈ lw_tbl := sl_in (q := (yX2_noteAnswer, 6)) 25 (by decide +kernel)
theorem my_yX2_reachOf : gY yX2_reachOf cX2_reachOf 2 (some (.array .long)) 1 := ⟨tq4 9 rfl, tq1 8 rfl, ⟨by decide +kernel, by decide +kernel, by decide +kernel⟩, by decide⟩
theorem mi_yX2_reachOf : Cond.instanceMethod yX2_reachOf ∈ lw_tbl := tq4 7 rfl
theorem ms_yX2_reachOf : Cond.selects yX2_reachOf.cls yX2_reachOf yX2_reachOf ∈ lw_tbl := tq4 8 rfl
theorem my_yX2_putInto : gY yX2_putInto cX2_putInto 4 none 2 := ⟨tq4 16 rfl, tq1 8 rfl, ⟨by decide +kernel, by decide +kernel, by decide +kernel⟩, by decide⟩
theorem mi_yX2_putInto : Cond.instanceMethod yX2_putInto ∈ lw_tbl := tq4 14 rfl
theorem ms_yX2_putInto : Cond.selects yX2_putInto.cls yX2_putInto yX2_putInto ∈ lw_tbl := tq4 15 rfl
theorem my_yX2_addReach : gY yX2_addReach cX2_addReach 5 none 2 := ⟨tq4 21 rfl, tq1 8 rfl, ⟨by decide +kernel, by decide +kernel, by decide +kernel⟩, by decide⟩
theorem mi_yX2_addReach : Cond.instanceMethod yX2_addReach ∈ lw_tbl := tq4 20 rfl
theorem ms_yX2_addReach : Cond.selects yX2_addReach.cls yX2_addReach yX2_addReach ∈ lw_tbl := sl_in (q := (yX2_addReach, 6)) 26 (by decide +kernel)
theorem my_yX8_bound : gY yX8_bound cX8_bound 3 (some .long) 1 := ⟨tq4 26 rfl, tq1 1 rfl, ⟨by decide +kernel, by decide +kernel, by decide +kernel⟩, by decide⟩
theorem mi_yX8_bound : Cond.instanceMethod yX8_bound ∈ lw_tbl := tq4 24 rfl
theorem ms_yX8_bound : Cond.selects yX8_bound.cls yX8_bound yX8_bound ∈ lw_tbl := tq4 25 rfl
theorem my_yX8_mean : gY yX8_mean cX8_mean 3 (some .long) 2 := ⟨tq4 31 rfl, tq1 1 rfl, ⟨by decide +kernel, by decide +kernel, by decide +kernel⟩, by decide⟩
theorem mi_yX8_mean : Cond.instanceMethod yX8_mean ∈ lw_tbl := tq4 29 rfl
theorem ms_yX8_mean : Cond.selects yX8_mean.cls yX8_mean yX8_mean ∈ lw_tbl := tq4 30 rfl
theorem my_yX2_timesDone : gY yX2_timesDone cX2_timesDone 5 (some .int) 2 := ⟨tq4 35 rfl, tq1 8 rfl, ⟨by decide +kernel, by decide +kernel, by decide +kernel⟩, by decide⟩
theorem mi_yX2_timesDone : Cond.instanceMethod yX2_timesDone ∈ lw_tbl := tq4 33 rfl
theorem ms_yX2_timesDone : Cond.selects yX2_timesDone.cls yX2_timesDone yX2_timesDone ∈ lw_tbl := tq4 34 rfl
theorem my_yX8_take : gY yX8_take cX8_take 2 (some .long) 1 := ⟨tq4 39 rfl, tq1 1 rfl, ⟨by decide +kernel, by decide +kernel, by decide +kernel⟩, by decide⟩
theorem mi_yX8_take : Cond.instanceMethod yX8_take ∈ lw_tbl := tq4 37 rfl
theorem ms_yX8_take : Cond.selects yX8_take.cls yX8_take yX8_take ∈ lw_tbl := tq4 38 rfl
theorem my_yX8_kind : gY yX8_kind cX8_kind 2 (some .long) 1 := ⟨tq4 44 rfl, tq1 1 rfl, ⟨by decide +kernel, by decide +kernel, by decide +kernel⟩, by decide⟩
theorem mi_yX8_kind : Cond.instanceMethod yX8_kind ∈ lw_tbl := tq4 42 rfl
theorem ms_yX8_kind : Cond.selects yX8_kind.cls yX8_kind yX8_kind ∈ lw_tbl := tq4 43 rfl
theorem my_yX1_kindOf : gY yX1_kindOf cX1_kindOf 2 (some .int) 1 := ⟨tq4 48 rfl, tq1 10 rfl, ⟨by decide +kernel, by decide +kernel, by decide +kernel⟩, by decide⟩
theorem mi_yX1_kindOf : Cond.instanceMethod yX1_kindOf ∈ lw_tbl := tq4 46 rfl
theorem ms_yX1_kindOf : Cond.selects yX1_kindOf.cls yX1_kindOf yX1_kindOf ∈ lw_tbl := tq4 47 rfl
theorem my_yX8_as : gY yX8_as cX8_as 3 (some .long) 2 := ⟨tq4 52 rfl, tq1 1 rfl, ⟨by decide +kernel, by decide +kernel, by decide +kernel⟩, by decide⟩
theorem mi_yX8_as : Cond.instanceMethod yX8_as ∈ lw_tbl := tq4 50 rfl
theorem ms_yX8_as : Cond.selects yX8_as.cls yX8_as yX8_as ∈ lw_tbl := tq4 51 rfl
theorem my_yX1_isOfKind : gY yX1_isOfKind cX1_isOfKind 4 (some .boolean) 2 := ⟨tq4 56 rfl, tq1 10 rfl, ⟨by decide +kernel, by decide +kernel, by decide +kernel⟩, by decide⟩
theorem mi_yX1_isOfKind : Cond.instanceMethod yX1_isOfKind ∈ lw_tbl := tq4 54 rfl
theorem ms_yX1_isOfKind : Cond.selects yX1_isOfKind.cls yX1_isOfKind yX1_isOfKind ∈ lw_tbl := tq4 55 rfl
theorem my_yX8_ask : gY yX8_ask cX8_ask 3 (some .long) 2 := ⟨tq4 61 rfl, tq1 1 rfl, ⟨by decide +kernel, by decide +kernel, by decide +kernel⟩, by decide⟩
theorem mi_yX8_ask : Cond.instanceMethod yX8_ask ∈ lw_tbl := tq4 59 rfl
theorem ms_yX8_ask : Cond.selects yX8_ask.cls yX8_ask yX8_ask ∈ lw_tbl := tq4 60 rfl
theorem my_yX0_askSize : gY yX0_askSize cX0_askSize 3 (some .long) 2 := ⟨tq4 65 rfl, tq1 9 rfl, ⟨by decide +kernel, by decide +kernel, by decide +kernel⟩, by decide⟩
theorem mi_yX0_askSize : Cond.instanceMethod yX0_askSize ∈ lw_tbl := tq4 63 rfl
theorem ms_yX0_askSize : Cond.selects yX0_askSize.cls yX0_askSize yX0_askSize ∈ lw_tbl := tq4 64 rfl
theorem my_yX0_sizeBody : gY yX0_sizeBody cX0_sizeBody 2 (some .int) 2 := ⟨tq4 68 rfl, tq1 9 rfl, ⟨by decide +kernel, by decide +kernel, by decide +kernel⟩, by decide⟩
theorem mt_yX0_sizeBody : Cond.static yX0_sizeBody ∈ lw_tbl := tq4 67 rfl
theorem my_yX0_runBody : gY yX0_runBody cX0_runBody 6 (some .long) 4 := ⟨tq4 73 rfl, tq1 9 rfl, ⟨by decide +kernel, by decide +kernel, by decide +kernel⟩, by decide⟩
theorem mi_yX0_runBody : Cond.instanceMethod yX0_runBody ∈ lw_tbl := tq4 72 rfl
theorem ms_yX0_runBody : Cond.selects yX0_runBody.cls yX0_runBody yX0_runBody ∈ lw_tbl := sl_in (q := (yX0_runBody, 2)) 27 (by decide +kernel)
theorem my_yX0_leave : gY yX0_leave cX0_leave 2 none 1 := ⟨tq4 77 rfl, tq1 9 rfl, ⟨by decide +kernel, by decide +kernel, by decide +kernel⟩, by decide⟩
theorem mi_yX0_leave : Cond.instanceMethod yX0_leave ∈ lw_tbl := tq4 76 rfl
theorem ms_yX0_leave : Cond.selects yX0_leave.cls yX0_leave yX0_leave ∈ lw_tbl := sl_in (q := (yX0_leave, 2)) 28 (by decide +kernel)
theorem my_yX0_markBody : gY yX0_markBody cX0_markBody 2 (some .int) 2 := ⟨tq4 80 rfl, tq1 9 rfl, ⟨by decide +kernel, by decide +kernel, by decide +kernel⟩, by decide⟩
theorem mt_yX0_markBody : Cond.static yX0_markBody ∈ lw_tbl := tq4 79 rfl
theorem my_yX0_askMark : gY yX0_askMark cX0_askMark 3 (some .long) 2 := ⟨tq4 86 rfl, tq1 9 rfl, ⟨by decide +kernel, by decide +kernel, by decide +kernel⟩, by decide⟩
theorem mi_yX0_askMark : Cond.instanceMethod yX0_askMark ∈ lw_tbl := tq4 84 rfl
theorem ms_yX0_askMark : Cond.selects yX0_askMark.cls yX0_askMark yX0_askMark ∈ lw_tbl := tq4 85 rfl
theorem my_yX8_trace : gY yX8_trace cX8_trace 2 (some .int) 1 := ⟨tq4 90 rfl, tq1 1 rfl, ⟨by decide +kernel, by decide +kernel, by decide +kernel⟩, by decide⟩
theorem mi_yX8_trace : Cond.instanceMethod yX8_trace ∈ lw_tbl := tq4 88 rfl
theorem ms_yX8_trace : Cond.selects yX8_trace.cls yX8_trace yX8_trace ∈ lw_tbl := tq4 89 rfl
theorem my_yX8_count : gY yX8_count cX8_count 2 (some .long) 1 := ⟨tq4 94 rfl, tq1 1 rfl, ⟨by decide +kernel, by decide +kernel, by decide +kernel⟩, by decide⟩
theorem mi_yX8_count : Cond.instanceMethod yX8_count ∈ lw_tbl := tq4 92 rfl
theorem ms_yX8_count : Cond.selects yX8_count.cls yX8_count yX8_count ∈ lw_tbl := tq4 93 rfl
theorem my_yX5_countRows : gY yX5_countRows cX5_countRows 3 (some .int) 0 := ⟨tq4 98 rfl, tq1 2 rfl, ⟨by decide +kernel, by decide +kernel, by decide +kernel⟩, by decide⟩
theorem mi_yX5_countRows : Cond.instanceMethod yX5_countRows ∈ lw_tbl := tq4 96 rfl
theorem ms_yX5_countRows : Cond.selects yX5_countRows.cls yX5_countRows yX5_countRows ∈ lw_tbl := tq4 97 rfl
theorem my_yX1_countOf : gY yX1_countOf cX1_countOf 4 (some .int) 1 := ⟨tq4 103 rfl, tq1 10 rfl, ⟨by decide +kernel, by decide +kernel, by decide +kernel⟩, by decide⟩
theorem mi_yX1_countOf : Cond.instanceMethod yX1_countOf ∈ lw_tbl := tq4 101 rfl
theorem ms_yX1_countOf : Cond.selects yX1_countOf.cls yX1_countOf yX1_countOf ∈ lw_tbl := tq4 102 rfl
theorem my_yX1_countSets : gY yX1_countSets cX1_countSets 3 (some .int) 0 := ⟨tq4 107 rfl, tq1 10 rfl, ⟨by decide +kernel, by decide +kernel, by decide +kernel⟩, by decide⟩
theorem mi_yX1_countSets : Cond.instanceMethod yX1_countSets ∈ lw_tbl := tq4 105 rfl
theorem ms_yX1_countSets : Cond.selects yX1_countSets.cls yX1_countSets yX1_countSets ∈ lw_tbl := tq4 106 rfl
theorem my_yX8_status : gY yX8_status cX8_status 1 (some .int) 0 := ⟨tq4 111 rfl, tq1 1 rfl, ⟨by decide +kernel, by decide +kernel, by decide +kernel⟩, by decide⟩
theorem mi_yX8_status : Cond.instanceMethod yX8_status ∈ lw_tbl := tq4 109 rfl
theorem ms_yX8_status : Cond.selects yX8_status.cls yX8_status yX8_status ∈ lw_tbl := tq4 110 rfl
theorem my_yX9_row : gY yX9_row cX9_row 5 (some .long) 3 := ⟨tq5 2 rfl, tq1 11 rfl, ⟨by decide +kernel, by decide +kernel, by decide +kernel⟩, by decide⟩
theorem mi_yX9_row : Cond.instanceMethod yX9_row ∈ lw_tbl := tq5 0 rfl
theorem ms_yX9_row : Cond.selects yX9_row.cls yX9_row yX9_row ∈ lw_tbl := tq5 1 rfl
theorem my_yX9_isRow : gY yX9_isRow cX9_isRow 1 (some .boolean) 1 := ⟨tq5 5 rfl, tq1 11 rfl, ⟨by decide +kernel, by decide +kernel, by decide +kernel⟩, by decide⟩
theorem mt_yX9_isRow : Cond.static yX9_isRow ∈ lw_tbl := tq5 4 rfl
theorem my_yX9_in : gY yX9_in cX9_in 6 (some .boolean) 3 := ⟨tq5 9 rfl, tq1 11 rfl, ⟨by decide +kernel, by decide +kernel, by decide +kernel⟩, by decide⟩
theorem mt_yX9_in : Cond.static yX9_in ∈ lw_tbl := tq5 8 rfl
theorem my_yX9_found : gY yX9_found cX9_found 2 (some .long) 1 := ⟨tq5 15 rfl, tq1 11 rfl, ⟨by decide +kernel, by decide +kernel, by decide +kernel⟩, by decide⟩
theorem mi_yX9_found : Cond.instanceMethod yX9_found ∈ lw_tbl := tq5 14 rfl
theorem ms_yX9_found : Cond.selects yX9_found.cls yX9_found yX9_found ∈ lw_tbl := sl_in (q := (yX9_found, 40)) 29 (by decide +kernel)
theorem my_yX9_taken : gY yX9_taken cX9_taken 3 (some .long) 1 := ⟨tq5 20 rfl, tq1 11 rfl, ⟨by decide +kernel, by decide +kernel, by decide +kernel⟩, by decide⟩
theorem mi_yX9_taken : Cond.instanceMethod yX9_taken ∈ lw_tbl := tq5 19 rfl
theorem ms_yX9_taken : Cond.selects yX9_taken.cls yX9_taken yX9_taken ∈ lw_tbl := sl_in (q := (yX9_taken, 40)) 30 (by decide +kernel)
theorem my_yX9_set : gY yX9_set cX9_set 4 (some .long) 3 := ⟨tq5 24 rfl, tq1 11 rfl, ⟨by decide +kernel, by decide +kernel, by decide +kernel⟩, by decide⟩
theorem mi_yX9_set : Cond.instanceMethod yX9_set ∈ lw_tbl := tq5 22 rfl
theorem ms_yX9_set : Cond.selects yX9_set.cls yX9_set yX9_set ∈ lw_tbl := tq5 23 rfl
theorem my_yX9_copy : gY yX9_copy cX9_copy 8 (some .long) 5 := ⟨tq5 28 rfl, tq1 11 rfl, ⟨by decide +kernel, by decide +kernel, by decide +kernel⟩, by decide⟩
theorem mi_yX9_copy : Cond.instanceMethod yX9_copy ∈ lw_tbl := tq5 26 rfl
theorem ms_yX9_copy : Cond.selects yX9_copy.cls yX9_copy yX9_copy ∈ lw_tbl := tq5 27 rfl
theorem my_yX9_drop : gY yX9_drop cX9_drop 2 (some .long) 1 := ⟨tq5 32 rfl, tq1 11 rfl, ⟨by decide +kernel, by decide +kernel, by decide +kernel⟩, by decide⟩
theorem mi_yX9_drop : Cond.instanceMethod yX9_drop ∈ lw_tbl := tq5 30 rfl
theorem ms_yX9_drop : Cond.selects yX9_drop.cls yX9_drop yX9_drop ∈ lw_tbl := tq5 31 rfl
theorem my_yX9_feed : gY yX9_feed cX9_feed 5 (some .long) 2 := ⟨tq5 36 rfl, tq1 11 rfl, ⟨by decide +kernel, by decide +kernel, by decide +kernel⟩, by decide⟩
theorem mi_yX9_feed : Cond.instanceMethod yX9_feed ∈ lw_tbl := tq5 34 rfl
theorem ms_yX9_feed : Cond.selects yX9_feed.cls yX9_feed yX9_feed ∈ lw_tbl := tq5 35 rfl
theorem my_yX9_game : gY yX9_game cX9_game 4 (some .long) 0 := ⟨tq5 43 rfl, tq1 11 rfl, ⟨by decide +kernel, by decide +kernel, by decide +kernel⟩, by decide⟩
theorem mi_yX9_game : Cond.instanceMethod yX9_game ∈ lw_tbl := tq5 41 rfl
theorem ms_yX9_game : Cond.selects yX9_game.cls yX9_game yX9_game ∈ lw_tbl := tq5 42 rfl
theorem my_yX9_readsAll : gY yX9_readsAll cX9_readsAll 5 (some .int) 0 := ⟨tq5 47 rfl, tq1 11 rfl, ⟨by decide +kernel, by decide +kernel, by decide +kernel⟩, by decide⟩
theorem mi_yX9_readsAll : Cond.instanceMethod yX9_readsAll ∈ lw_tbl := tq5 46 rfl
theorem ms_yX9_readsAll : Cond.selects yX9_readsAll.cls yX9_readsAll yX9_readsAll ∈ lw_tbl := sl_in (q := (yX9_readsAll, 40)) 31 (by decide +kernel)
theorem my_yX9_readsShare : gY yX9_readsShare cX9_readsShare 3 (some .int) 0 := ⟨tq5 51 rfl, tq1 11 rfl, ⟨by decide +kernel, by decide +kernel, by decide +kernel⟩, by decide⟩
theorem mi_yX9_readsShare : Cond.instanceMethod yX9_readsShare ∈ lw_tbl := tq5 50 rfl
theorem ms_yX9_readsShare : Cond.selects yX9_readsShare.cls yX9_readsShare yX9_readsShare ∈ lw_tbl := sl_in (q := (yX9_readsShare, 40)) 32 (by decide +kernel)
theorem my_yX9_token : gY yX9_token cX9_token 2 none 0 := ⟨tq5 55 rfl, tq1 11 rfl, ⟨by decide +kernel, by decide +kernel, by decide +kernel⟩, by decide⟩
theorem mi_yX9_token : Cond.instanceMethod yX9_token ∈ lw_tbl := tq5 54 rfl
theorem ms_yX9_token : Cond.selects yX9_token.cls yX9_token yX9_token ∈ lw_tbl := sl_in (q := (yX9_token, 40)) 33 (by decide +kernel)
theorem my_yX9_readsPlace : gY yX9_readsPlace cX9_readsPlace 4 (some .int) 0 := ⟨tq5 64 rfl, tq1 11 rfl, ⟨by decide +kernel, by decide +kernel, by decide +kernel⟩, by decide⟩
theorem mi_yX9_readsPlace : Cond.instanceMethod yX9_readsPlace ∈ lw_tbl := tq5 63 rfl
theorem ms_yX9_readsPlace : Cond.selects yX9_readsPlace.cls yX9_readsPlace yX9_readsPlace ∈ lw_tbl := sl_in (q := (yX9_readsPlace, 40)) 34 (by decide +kernel)
theorem my_yX9_wordNow : gY yX9_wordNow cX9_wordNow 1 (some .int) 0 := ⟨tq5 68 rfl, tq1 11 rfl, ⟨by decide +kernel, by decide +kernel, by decide +kernel⟩, by decide⟩
theorem mi_yX9_wordNow : Cond.instanceMethod yX9_wordNow ∈ lw_tbl := tq5 67 rfl
theorem ms_yX9_wordNow : Cond.selects yX9_wordNow.cls yX9_wordNow yX9_wordNow ∈ lw_tbl := sl_in (q := (yX9_wordNow, 40)) 35 (by decide +kernel)
theorem my_yX9_isWord : gY yX9_isWord cX9_isWord 6 (some .boolean) 4 := ⟨tq5 72 rfl, tq1 11 rfl, ⟨by decide +kernel, by decide +kernel, by decide +kernel⟩, by decide⟩
theorem mi_yX9_isWord : Cond.instanceMethod yX9_isWord ∈ lw_tbl := tq5 71 rfl
theorem ms_yX9_isWord : Cond.selects yX9_isWord.cls yX9_isWord yX9_isWord ∈ lw_tbl := sl_in (q := (yX9_isWord, 40)) 36 (by decide +kernel)
theorem my_yX9_readsDeal : gY yX9_readsDeal cX9_readsDeal 2 (some .int) 1 := ⟨tq5 77 rfl, tq1 11 rfl, ⟨by decide +kernel, by decide +kernel, by decide +kernel⟩, by decide⟩
theorem mi_yX9_readsDeal : Cond.instanceMethod yX9_readsDeal ∈ lw_tbl := tq5 76 rfl
theorem ms_yX9_readsDeal : Cond.selects yX9_readsDeal.cls yX9_readsDeal yX9_readsDeal ∈ lw_tbl := sl_in (q := (yX9_readsDeal, 40)) 37 (by decide +kernel)
theorem my_yX9_readsHeld : gY yX9_readsHeld cX9_readsHeld 4 (some .int) 2 := ⟨tq5 82 rfl, tq1 11 rfl, ⟨by decide +kernel, by decide +kernel, by decide +kernel⟩, by decide⟩
theorem mi_yX9_readsHeld : Cond.instanceMethod yX9_readsHeld ∈ lw_tbl := tq5 81 rfl
theorem ms_yX9_readsHeld : Cond.selects yX9_readsHeld.cls yX9_readsHeld yX9_readsHeld ∈ lw_tbl := sl_in (q := (yX9_readsHeld, 40)) 38 (by decide +kernel)
theorem my_yX9_fault : gY yX9_fault cX9_fault 1 (some .int) 0 := ⟨tq5 88 rfl, tq1 11 rfl, ⟨by decide +kernel, by decide +kernel, by decide +kernel⟩, by decide⟩
theorem mi_yX9_fault : Cond.instanceMethod yX9_fault ∈ lw_tbl := tq5 86 rfl
theorem ms_yX9_fault : Cond.selects yX9_fault.cls yX9_fault yX9_fault ∈ lw_tbl := tq5 87 rfl
theorem my_yX9_place : gY yX9_place cX9_place 3 (some .long) 2 := ⟨tq5 92 rfl, tq1 11 rfl, ⟨by decide +kernel, by decide +kernel, by decide +kernel⟩, by decide⟩
theorem mi_yX9_place : Cond.instanceMethod yX9_place ∈ lw_tbl := tq5 90 rfl
theorem ms_yX9_place : Cond.selects yX9_place.cls yX9_place yX9_place ∈ lw_tbl := tq5 91 rfl
theorem my_yX9_isPlace : gY yX9_isPlace cX9_isPlace 2 (some .boolean) 1 := ⟨tq5 96 rfl, tq1 11 rfl, ⟨by decide +kernel, by decide +kernel, by decide +kernel⟩, by decide⟩
theorem mi_yX9_isPlace : Cond.instanceMethod yX9_isPlace ∈ lw_tbl := tq5 95 rfl
theorem ms_yX9_isPlace : Cond.selects yX9_isPlace.cls yX9_isPlace yX9_isPlace ∈ lw_tbl := sl_in (q := (yX9_isPlace, 40)) 39 (by decide +kernel)
theorem my_yX9_seen : gY yX9_seen cX9_seen 3 (some .long) 2 := ⟨tq5 100 rfl, tq1 11 rfl, ⟨by decide +kernel, by decide +kernel, by decide +kernel⟩, by decide⟩
theorem mi_yX9_seen : Cond.instanceMethod yX9_seen ∈ lw_tbl := tq5 98 rfl
theorem ms_yX9_seen : Cond.selects yX9_seen.cls yX9_seen yX9_seen ∈ lw_tbl := tq5 99 rfl
theorem my_yX9_placesIn : gY yX9_placesIn cX9_placesIn 4 (some .int) 1 := ⟨tq5 106 rfl, tq1 11 rfl, ⟨by decide +kernel, by decide +kernel, by decide +kernel⟩, by decide⟩
theorem mi_yX9_placesIn : Cond.instanceMethod yX9_placesIn ∈ lw_tbl := tq5 105 rfl
theorem ms_yX9_placesIn : Cond.selects yX9_placesIn.cls yX9_placesIn yX9_placesIn ∈ lw_tbl := sl_in (q := (yX9_placesIn, 40)) 40 (by decide +kernel)
theorem my_yX9_forgets : gY yX9_forgets cX9_forgets 2 (some .long) 1 := ⟨tq5 110 rfl, tq1 11 rfl, ⟨by decide +kernel, by decide +kernel, by decide +kernel⟩, by decide⟩
theorem mi_yX9_forgets : Cond.instanceMethod yX9_forgets ∈ lw_tbl := tq5 108 rfl
theorem ms_yX9_forgets : Cond.selects yX9_forgets.cls yX9_forgets yX9_forgets ∈ lw_tbl := tq5 109 rfl
theorem my_yX9_isForgetful : gY yX9_isForgetful cX9_isForgetful 4 (some .boolean) 1 := ⟨tq5 114 rfl, tq1 11 rfl, ⟨by decide +kernel, by decide +kernel, by decide +kernel⟩, by decide⟩
theorem mi_yX9_isForgetful : Cond.instanceMethod yX9_isForgetful ∈ lw_tbl := tq5 113 rfl
theorem ms_yX9_isForgetful : Cond.selects yX9_isForgetful.cls yX9_isForgetful yX9_isForgetful ∈ lw_tbl := sl_in (q := (yX9_isForgetful, 40)) 41 (by decide +kernel)
theorem my_yX9_isOf : gY yX9_isOf cX9_isOf 3 (some .boolean) 2 := ⟨tq5 118 rfl, tq1 11 rfl, ⟨by decide +kernel, by decide +kernel, by decide +kernel⟩, by decide⟩
theorem mi_yX9_isOf : Cond.instanceMethod yX9_isOf ∈ lw_tbl := tq5 117 rfl
theorem ms_yX9_isOf : Cond.selects yX9_isOf.cls yX9_isOf yX9_isOf ∈ lw_tbl := sl_in (q := (yX9_isOf, 40)) 42 (by decide +kernel)
theorem my_yX9_areAlike : gY yX9_areAlike cX9_areAlike 9 (some .boolean) 3 := ⟨tq5 122 rfl, tq1 11 rfl, ⟨by decide +kernel, by decide +kernel, by decide +kernel⟩, by decide⟩
theorem mi_yX9_areAlike : Cond.instanceMethod yX9_areAlike ∈ lw_tbl := tq5 121 rfl
theorem ms_yX9_areAlike : Cond.selects yX9_areAlike.cls yX9_areAlike yX9_areAlike ∈ lw_tbl := sl_in (q := (yX9_areAlike, 40)) 43 (by decide +kernel)
theorem my_yX9_ownAbove : gY yX9_ownAbove cX9_ownAbove 4 (some .int) 2 := ⟨tq5 126 rfl, tq1 11 rfl, ⟨by decide +kernel, by decide +kernel, by decide +kernel⟩, by decide⟩
theorem mi_yX9_ownAbove : Cond.instanceMethod yX9_ownAbove ∈ lw_tbl := tq5 125 rfl
theorem ms_yX9_ownAbove : Cond.selects yX9_ownAbove.cls yX9_ownAbove yX9_ownAbove ∈ lw_tbl := sl_in (q := (yX9_ownAbove, 40)) 44 (by decide +kernel)
theorem my_yX9_wayTo : gY yX9_wayTo cX9_wayTo 4 (some .int) 2 := ⟨tq5 130 rfl, tq1 11 rfl, ⟨by decide +kernel, by decide +kernel, by decide +kernel⟩, by decide⟩
theorem mi_yX9_wayTo : Cond.instanceMethod yX9_wayTo ∈ lw_tbl := tq5 129 rfl
theorem ms_yX9_wayTo : Cond.selects yX9_wayTo.cls yX9_wayTo yX9_wayTo ∈ lw_tbl := sl_in (q := (yX9_wayTo, 40)) 45 (by decide +kernel)
theorem my_yX9_mix : gY yX9_mix cX9_mix 8 (some .long) 3 := ⟨tq5 134 rfl, tq1 11 rfl, ⟨by decide +kernel, by decide +kernel, by decide +kernel⟩, by decide⟩
theorem mi_yX9_mix : Cond.instanceMethod yX9_mix ∈ lw_tbl := tq5 132 rfl
theorem ms_yX9_mix : Cond.selects yX9_mix.cls yX9_mix yX9_mix ∈ lw_tbl := tq5 133 rfl
theorem my_yX9_isSet : gY yX9_isSet cX9_isSet 2 (some .boolean) 1 := ⟨tq5 138 rfl, tq1 11 rfl, ⟨by decide +kernel, by decide +kernel, by decide +kernel⟩, by decide⟩
theorem mi_yX9_isSet : Cond.instanceMethod yX9_isSet ∈ lw_tbl := tq5 137 rfl
theorem ms_yX9_isSet : Cond.selects yX9_isSet.cls yX9_isSet yX9_isSet ∈ lw_tbl := sl_in (q := (yX9_isSet, 40)) 46 (by decide +kernel)
theorem my_yX9_share : gY yX9_share cX9_share 3 (some .long) 2 := ⟨tq5 143 rfl, tq1 11 rfl, ⟨by decide +kernel, by decide +kernel, by decide +kernel⟩, by decide⟩
theorem mi_yX9_share : Cond.instanceMethod yX9_share ∈ lw_tbl := tq5 141 rfl
theorem ms_yX9_share : Cond.selects yX9_share.cls yX9_share yX9_share ∈ lw_tbl := tq5 142 rfl
theorem my_yX9_value : gY yX9_value cX9_value 1 (some .long) 0 := ⟨tq5 147 rfl, tq1 11 rfl, ⟨by decide +kernel, by decide +kernel, by decide +kernel⟩, by decide⟩
theorem mi_yX9_value : Cond.instanceMethod yX9_value ∈ lw_tbl := tq5 145 rfl
theorem ms_yX9_value : Cond.selects yX9_value.cls yX9_value yX9_value ∈ lw_tbl := tq5 146 rfl
theorem my_yX9_valueNow : gY yX9_valueNow cX9_valueNow 4 (some .long) 0 := ⟨tq5 152 rfl, tq1 11 rfl, ⟨by decide +kernel, by decide +kernel, by decide +kernel⟩, by decide⟩
theorem mi_yX9_valueNow : Cond.instanceMethod yX9_valueNow ∈ lw_tbl := tq5 151 rfl
theorem ms_yX9_valueNow : Cond.selects yX9_valueNow.cls yX9_valueNow yX9_valueNow ∈ lw_tbl := sl_in (q := (yX9_valueNow, 40)) 47 (by decide +kernel)
theorem my_yX9_layReach : gY yX9_layReach cX9_layReach 4 none 2 := ⟨tq5 156 rfl, tq1 11 rfl, ⟨by decide +kernel, by decide +kernel, by decide +kernel⟩, by decide⟩
theorem mi_yX9_layReach : Cond.instanceMethod yX9_layReach ∈ lw_tbl := tq5 155 rfl
theorem ms_yX9_layReach : Cond.selects yX9_layReach.cls yX9_layReach yX9_layReach ∈ lw_tbl := sl_in (q := (yX9_layReach, 40)) 48 (by decide +kernel)
theorem my_yX9_shareTo : gY yX9_shareTo cX9_shareTo 6 (some .int) 3 := ⟨tq5 161 rfl, tq1 11 rfl, ⟨by decide +kernel, by decide +kernel, by decide +kernel⟩, by decide⟩
theorem mi_yX9_shareTo : Cond.instanceMethod yX9_shareTo ∈ lw_tbl := tq5 160 rfl
theorem ms_yX9_shareTo : Cond.selects yX9_shareTo.cls yX9_shareTo yX9_shareTo ∈ lw_tbl := sl_in (q := (yX9_shareTo, 40)) 49 (by decide +kernel)
theorem my_yX9_reach : gY yX9_reach cX9_reach 3 (some .long) 2 := ⟨tq5 165 rfl, tq1 11 rfl, ⟨by decide +kernel, by decide +kernel, by decide +kernel⟩, by decide⟩
theorem mi_yX9_reach : Cond.instanceMethod yX9_reach ∈ lw_tbl := tq5 163 rfl
theorem ms_yX9_reach : Cond.selects yX9_reach.cls yX9_reach yX9_reach ∈ lw_tbl := tq5 164 rfl
theorem my_yX9_best : gY yX9_best cX9_best 3 (some .long) 2 := ⟨tq5 169 rfl, tq1 11 rfl, ⟨by decide +kernel, by decide +kernel, by decide +kernel⟩, by decide⟩
theorem mi_yX9_best : Cond.instanceMethod yX9_best ∈ lw_tbl := tq5 167 rfl
theorem ms_yX9_best : Cond.selects yX9_best.cls yX9_best yX9_best ∈ lw_tbl := tq5 168 rfl
theorem my_yX9_answerOf : gY yX9_answerOf cX9_answerOf 2 (some .long) 1 := ⟨tq5 173 rfl, tq1 11 rfl, ⟨by decide +kernel, by decide +kernel, by decide +kernel⟩, by decide⟩
theorem mi_yX9_answerOf : Cond.instanceMethod yX9_answerOf ∈ lw_tbl := tq5 172 rfl
theorem ms_yX9_answerOf : Cond.selects yX9_answerOf.cls yX9_answerOf yX9_answerOf ∈ lw_tbl := sl_in (q := (yX9_answerOf, 40)) 50 (by decide +kernel)
theorem my_yX9_layGroups : gY yX9_layGroups cX9_layGroups 2 none 0 := ⟨tq5 177 rfl, tq1 11 rfl, ⟨by decide +kernel, by decide +kernel, by decide +kernel⟩, by decide⟩
theorem mi_yX9_layGroups : Cond.instanceMethod yX9_layGroups ∈ lw_tbl := tq5 176 rfl
theorem ms_yX9_layGroups : Cond.selects yX9_layGroups.cls yX9_layGroups yX9_layGroups ∈ lw_tbl := sl_in (q := (yX9_layGroups, 40)) 51 (by decide +kernel)
theorem my_yX9_layCounts : gY yX9_layCounts cX9_layCounts 3 none 1 := ⟨tq5 181 rfl, tq1 11 rfl, ⟨by decide +kernel, by decide +kernel, by decide +kernel⟩, by decide⟩
theorem mi_yX9_layCounts : Cond.instanceMethod yX9_layCounts ∈ lw_tbl := tq5 180 rfl
theorem ms_yX9_layCounts : Cond.selects yX9_layCounts.cls yX9_layCounts yX9_layCounts ∈ lw_tbl := sl_in (q := (yX9_layCounts, 40)) 52 (by decide +kernel)
theorem my_yX9_answerBy : gY yX9_answerBy cX9_answerBy 4 (some .long) 1 := ⟨tq5 185 rfl, tq1 11 rfl, ⟨by decide +kernel, by decide +kernel, by decide +kernel⟩, by decide⟩
theorem mi_yX9_answerBy : Cond.instanceMethod yX9_answerBy ∈ lw_tbl := tq5 184 rfl
theorem ms_yX9_answerBy : Cond.selects yX9_answerBy.cls yX9_answerBy yX9_answerBy ∈ lw_tbl := sl_in (q := (yX9_answerBy, 40)) 53 (by decide +kernel)
theorem my_yX9_layWorth : gY yX9_layWorth cX9_layWorth 6 none 1 := ⟨tq5 189 rfl, tq1 11 rfl, ⟨by decide +kernel, by decide +kernel, by decide +kernel⟩, by decide⟩
theorem mi_yX9_layWorth : Cond.instanceMethod yX9_layWorth ∈ lw_tbl := tq5 188 rfl
theorem ms_yX9_layWorth : Cond.selects yX9_layWorth.cls yX9_layWorth yX9_layWorth ∈ lw_tbl := sl_in (q := (yX9_layWorth, 40)) 54 (by decide +kernel)
theorem my_yX9_ownDeep : gY yX9_ownDeep cX9_ownDeep 5 (some .int) 2 := ⟨tq5 193 rfl, tq1 11 rfl, ⟨by decide +kernel, by decide +kernel, by decide +kernel⟩, by decide⟩
theorem mi_yX9_ownDeep : Cond.instanceMethod yX9_ownDeep ∈ lw_tbl := tq5 192 rfl
theorem ms_yX9_ownDeep : Cond.selects yX9_ownDeep.cls yX9_ownDeep yX9_ownDeep ∈ lw_tbl := sl_in (q := (yX9_ownDeep, 40)) 55 (by decide +kernel)
theorem my_yX9_bestAct : gY yX9_bestAct cX9_bestAct 8 (some .int) 3 := ⟨tq5 197 rfl, tq1 11 rfl, ⟨by decide +kernel, by decide +kernel, by decide +kernel⟩, by decide⟩
theorem mi_yX9_bestAct : Cond.instanceMethod yX9_bestAct ∈ lw_tbl := tq5 196 rfl
theorem ms_yX9_bestAct : Cond.selects yX9_bestAct.cls yX9_bestAct yX9_bestAct ∈ lw_tbl := sl_in (q := (yX9_bestAct, 40)) 56 (by decide +kernel)
theorem my_yX9_worthOf : gY yX9_worthOf cX9_worthOf 7 (some .long) 3 := ⟨tq5 201 rfl, tq1 11 rfl, ⟨by decide +kernel, by decide +kernel, by decide +kernel⟩, by decide⟩
theorem mi_yX9_worthOf : Cond.instanceMethod yX9_worthOf ∈ lw_tbl := tq5 200 rfl
theorem ms_yX9_worthOf : Cond.selects yX9_worthOf.cls yX9_worthOf yX9_worthOf ∈ lw_tbl := sl_in (q := (yX9_worthOf, 40)) 57 (by decide +kernel)
theorem my_yX9_gainOf : gY yX9_gainOf cX9_gainOf 4 (some .long) 1 := ⟨tq5 205 rfl, tq1 11 rfl, ⟨by decide +kernel, by decide +kernel, by decide +kernel⟩, by decide⟩
theorem mi_yX9_gainOf : Cond.instanceMethod yX9_gainOf ∈ lw_tbl := tq5 204 rfl
theorem ms_yX9_gainOf : Cond.selects yX9_gainOf.cls yX9_gainOf yX9_gainOf ∈ lw_tbl := sl_in (q := (yX9_gainOf, 40)) 58 (by decide +kernel)
theorem my_yX9_answer : gY yX9_answer cX9_answer 2 (some .long) 1 := ⟨tq5 209 rfl, tq1 11 rfl, ⟨by decide +kernel, by decide +kernel, by decide +kernel⟩, by decide⟩
theorem mi_yX9_answer : Cond.instanceMethod yX9_answer ∈ lw_tbl := tq5 207 rfl
theorem ms_yX9_answer : Cond.selects yX9_answer.cls yX9_answer yX9_answer ∈ lw_tbl := tq5 208 rfl
theorem my_yX9_belief : gY yX9_belief cX9_belief 6 (some .long) 2 := ⟨tq5 213 rfl, tq1 11 rfl, ⟨by decide +kernel, by decide +kernel, by decide +kernel⟩, by decide⟩
theorem mi_yX9_belief : Cond.instanceMethod yX9_belief ∈ lw_tbl := tq5 211 rfl
theorem ms_yX9_belief : Cond.selects yX9_belief.cls yX9_belief yX9_belief ∈ lw_tbl := tq5 212 rfl
theorem my_yX9_seeing : gY yX9_seeing cX9_seeing 8 (some .long) 1 := ⟨tq5 217 rfl, tq1 11 rfl, ⟨by decide +kernel, by decide +kernel, by decide +kernel⟩, by decide⟩
theorem mi_yX9_seeing : Cond.instanceMethod yX9_seeing ∈ lw_tbl := tq5 215 rfl
theorem ms_yX9_seeing : Cond.selects yX9_seeing.cls yX9_seeing yX9_seeing ∈ lw_tbl := tq5 216 rfl
theorem my_yX9_through : gY yX9_through cX9_through 4 (some .int) 2 := ⟨tq5 221 rfl, tq1 11 rfl, ⟨by decide +kernel, by decide +kernel, by decide +kernel⟩, by decide⟩
theorem mi_yX9_through : Cond.instanceMethod yX9_through ∈ lw_tbl := tq5 220 rfl
theorem ms_yX9_through : Cond.selects yX9_through.cls yX9_through yX9_through ∈ lw_tbl := sl_in (q := (yX9_through, 40)) 59 (by decide +kernel)
theorem my_yX9_fewer : gY yX9_fewer cX9_fewer 3 (some .long) 2 := ⟨tq5 225 rfl, tq1 11 rfl, ⟨by decide +kernel, by decide +kernel, by decide +kernel⟩, by decide⟩
theorem mi_yX9_fewer : Cond.instanceMethod yX9_fewer ∈ lw_tbl := tq5 223 rfl
theorem ms_yX9_fewer : Cond.selects yX9_fewer.cls yX9_fewer yX9_fewer ∈ lw_tbl := tq5 224 rfl
theorem my_yX9_rounds : gY yX9_rounds cX9_rounds 5 (some .long) 1 := ⟨tq5 229 rfl, tq1 11 rfl, ⟨by decide +kernel, by decide +kernel, by decide +kernel⟩, by decide⟩
theorem mi_yX9_rounds : Cond.instanceMethod yX9_rounds ∈ lw_tbl := tq5 227 rfl
theorem ms_yX9_rounds : Cond.selects yX9_rounds.cls yX9_rounds yX9_rounds ∈ lw_tbl := tq5 228 rfl
theorem my_yX9_againstRounds : gY yX9_againstRounds cX9_againstRounds 4 (some .long) 1 := ⟨tq5 234 rfl, tq1 11 rfl, ⟨by decide +kernel, by decide +kernel, by decide +kernel⟩, by decide⟩
theorem mi_yX9_againstRounds : Cond.instanceMethod yX9_againstRounds ∈ lw_tbl := tq5 233 rfl
theorem ms_yX9_againstRounds : Cond.selects yX9_againstRounds.cls yX9_againstRounds yX9_againstRounds ∈ lw_tbl := sl_in (q := (yX9_againstRounds, 40)) 60 (by decide +kernel)
theorem my_yX9_bound : gY yX9_bound cX9_bound 2 (some .long) 1 := ⟨tq5 238 rfl, tq1 11 rfl, ⟨by decide +kernel, by decide +kernel, by decide +kernel⟩, by decide⟩
theorem mi_yX9_bound : Cond.instanceMethod yX9_bound ∈ lw_tbl := tq5 236 rfl
theorem ms_yX9_bound : Cond.selects yX9_bound.cls yX9_bound yX9_bound ∈ lw_tbl := tq5 237 rfl
theorem my_yX9_mean : gY yX9_mean cX9_mean 5 (some .long) 2 := ⟨tq6 2 rfl, tq1 11 rfl, ⟨by decide +kernel, by decide +kernel, by decide +kernel⟩, by decide⟩
theorem mi_yX9_mean : Cond.instanceMethod yX9_mean ∈ lw_tbl := tq6 0 rfl
theorem ms_yX9_mean : Cond.selects yX9_mean.cls yX9_mean yX9_mean ∈ lw_tbl := tq6 1 rfl
theorem my_yX9_take : gY yX9_take cX9_take 4 (some .long) 1 := ⟨tq6 6 rfl, tq1 11 rfl, ⟨by decide +kernel, by decide +kernel, by decide +kernel⟩, by decide⟩
theorem mi_yX9_take : Cond.instanceMethod yX9_take ∈ lw_tbl := tq6 4 rfl
theorem ms_yX9_take : Cond.selects yX9_take.cls yX9_take yX9_take ∈ lw_tbl := tq6 5 rfl
theorem my_yX9_kind : gY yX9_kind cX9_kind 2 (some .long) 1 := ⟨tq6 10 rfl, tq1 11 rfl, ⟨by decide +kernel, by decide +kernel, by decide +kernel⟩, by decide⟩
theorem mi_yX9_kind : Cond.instanceMethod yX9_kind ∈ lw_tbl := tq6 8 rfl
theorem ms_yX9_kind : Cond.selects yX9_kind.cls yX9_kind yX9_kind ∈ lw_tbl := tq6 9 rfl
theorem my_yX9_kindOf : gY yX9_kindOf cX9_kindOf 2 (some .int) 1 := ⟨tq6 14 rfl, tq1 11 rfl, ⟨by decide +kernel, by decide +kernel, by decide +kernel⟩, by decide⟩
theorem mi_yX9_kindOf : Cond.instanceMethod yX9_kindOf ∈ lw_tbl := tq6 13 rfl
theorem ms_yX9_kindOf : Cond.selects yX9_kindOf.cls yX9_kindOf yX9_kindOf ∈ lw_tbl := sl_in (q := (yX9_kindOf, 40)) 61 (by decide +kernel)
theorem my_yX9_as : gY yX9_as cX9_as 5 (some .long) 2 := ⟨tq6 18 rfl, tq1 11 rfl, ⟨by decide +kernel, by decide +kernel, by decide +kernel⟩, by decide⟩
theorem mi_yX9_as : Cond.instanceMethod yX9_as ∈ lw_tbl := tq6 16 rfl
theorem ms_yX9_as : Cond.selects yX9_as.cls yX9_as yX9_as ∈ lw_tbl := tq6 17 rfl
theorem my_yX9_ask : gY yX9_ask cX9_ask 4 (some .long) 2 := ⟨tq6 23 rfl, tq1 11 rfl, ⟨by decide +kernel, by decide +kernel, by decide +kernel⟩, by decide⟩
theorem mi_yX9_ask : Cond.instanceMethod yX9_ask ∈ lw_tbl := tq6 21 rfl
theorem ms_yX9_ask : Cond.selects yX9_ask.cls yX9_ask yX9_ask ∈ lw_tbl := tq6 22 rfl
theorem my_yX9_size11 : gY yX9_size11 cX9_size11 2 (some .long) 1 := ⟨tq6 27 rfl, tq1 11 rfl, ⟨by decide +kernel, by decide +kernel, by decide +kernel⟩, by decide⟩
theorem mi_yX9_size11 : Cond.instanceMethod yX9_size11 ∈ lw_tbl := tq6 26 rfl
theorem ms_yX9_size11 : Cond.selects yX9_size11.cls yX9_size11 yX9_size11 ∈ lw_tbl := sl_in (q := (yX9_size11, 40)) 62 (by decide +kernel)
theorem my_yX9_note : gY yX9_note cX9_note 2 none 1 := ⟨tq6 31 rfl, tq1 11 rfl, ⟨by decide +kernel, by decide +kernel, by decide +kernel⟩, by decide⟩
theorem mi_yX9_note : Cond.instanceMethod yX9_note ∈ lw_tbl := tq6 30 rfl
theorem ms_yX9_note : Cond.selects yX9_note.cls yX9_note yX9_note ∈ lw_tbl := sl_in (q := (yX9_note, 40)) 63 (by decide +kernel)
theorem my_yX9_size10 : gY yX9_size10 cX9_size10 3 (some .long) 1 := ⟨tq6 35 rfl, tq1 11 rfl, ⟨by decide +kernel, by decide +kernel, by decide +kernel⟩, by decide⟩
theorem mi_yX9_size10 : Cond.instanceMethod yX9_size10 ∈ lw_tbl := tq6 34 rfl
theorem ms_yX9_size10 : Cond.selects yX9_size10.cls yX9_size10 yX9_size10 ∈ lw_tbl := sl_in (q := (yX9_size10, 40)) 64 (by decide +kernel)
theorem my_yX9_size12 : gY yX9_size12 cX9_size12 4 (some .long) 1 := ⟨tq6 39 rfl, tq1 11 rfl, ⟨by decide +kernel, by decide +kernel, by decide +kernel⟩, by decide⟩
theorem mi_yX9_size12 : Cond.instanceMethod yX9_size12 ∈ lw_tbl := tq6 38 rfl
theorem ms_yX9_size12 : Cond.selects yX9_size12.cls yX9_size12 yX9_size12 ∈ lw_tbl := sl_in (q := (yX9_size12, 40)) 65 (by decide +kernel)
theorem my_yX9_mark21 : gY yX9_mark21 cX9_mark21 2 (some .long) 1 := ⟨tq6 43 rfl, tq1 11 rfl, ⟨by decide +kernel, by decide +kernel, by decide +kernel⟩, by decide⟩
theorem mi_yX9_mark21 : Cond.instanceMethod yX9_mark21 ∈ lw_tbl := tq6 42 rfl
theorem ms_yX9_mark21 : Cond.selects yX9_mark21.cls yX9_mark21 yX9_mark21 ∈ lw_tbl := sl_in (q := (yX9_mark21, 40)) 66 (by decide +kernel)
theorem my_yX9_mark20 : gY yX9_mark20 cX9_mark20 2 (some .long) 1 := ⟨tq6 47 rfl, tq1 11 rfl, ⟨by decide +kernel, by decide +kernel, by decide +kernel⟩, by decide⟩
theorem mi_yX9_mark20 : Cond.instanceMethod yX9_mark20 ∈ lw_tbl := tq6 46 rfl
theorem ms_yX9_mark20 : Cond.selects yX9_mark20.cls yX9_mark20 yX9_mark20 ∈ lw_tbl := sl_in (q := (yX9_mark20, 40)) 67 (by decide +kernel)
theorem my_yX9_size13 : gY yX9_size13 cX9_size13 2 (some .long) 1 := ⟨tq6 52 rfl, tq1 11 rfl, ⟨by decide +kernel, by decide +kernel, by decide +kernel⟩, by decide⟩
theorem mi_yX9_size13 : Cond.instanceMethod yX9_size13 ∈ lw_tbl := tq6 51 rfl
theorem ms_yX9_size13 : Cond.selects yX9_size13.cls yX9_size13 yX9_size13 ∈ lw_tbl := sl_in (q := (yX9_size13, 40)) 68 (by decide +kernel)
theorem my_yX9_size14 : gY yX9_size14 cX9_size14 2 (some .long) 1 := ⟨tq6 56 rfl, tq1 11 rfl, ⟨by decide +kernel, by decide +kernel, by decide +kernel⟩, by decide⟩
theorem mi_yX9_size14 : Cond.instanceMethod yX9_size14 ∈ lw_tbl := tq6 55 rfl
theorem ms_yX9_size14 : Cond.selects yX9_size14.cls yX9_size14 yX9_size14 ∈ lw_tbl := sl_in (q := (yX9_size14, 40)) 69 (by decide +kernel)
theorem my_yX9_size15 : gY yX9_size15 cX9_size15 2 (some .long) 1 := ⟨tq6 60 rfl, tq1 11 rfl, ⟨by decide +kernel, by decide +kernel, by decide +kernel⟩, by decide⟩
theorem mi_yX9_size15 : Cond.instanceMethod yX9_size15 ∈ lw_tbl := tq6 59 rfl
theorem ms_yX9_size15 : Cond.selects yX9_size15.cls yX9_size15 yX9_size15 ∈ lw_tbl := sl_in (q := (yX9_size15, 40)) 70 (by decide +kernel)
theorem my_yX9_mark22 : gY yX9_mark22 cX9_mark22 4 (some .long) 1 := ⟨tq6 64 rfl, tq1 11 rfl, ⟨by decide +kernel, by decide +kernel, by decide +kernel⟩, by decide⟩
theorem mi_yX9_mark22 : Cond.instanceMethod yX9_mark22 ∈ lw_tbl := tq6 63 rfl
theorem ms_yX9_mark22 : Cond.selects yX9_mark22.cls yX9_mark22 yX9_mark22 ∈ lw_tbl := sl_in (q := (yX9_mark22, 40)) 71 (by decide +kernel)
theorem my_yX9_trace : gY yX9_trace cX9_trace 2 (some .int) 1 := ⟨tq6 68 rfl, tq1 11 rfl, ⟨by decide +kernel, by decide +kernel, by decide +kernel⟩, by decide⟩
theorem mi_yX9_trace : Cond.instanceMethod yX9_trace ∈ lw_tbl := tq6 66 rfl
theorem ms_yX9_trace : Cond.selects yX9_trace.cls yX9_trace yX9_trace ∈ lw_tbl := tq6 67 rfl
theorem my_yX9_count : gY yX9_count cX9_count 4 (some .long) 1 := ⟨tq6 72 rfl, tq1 11 rfl, ⟨by decide +kernel, by decide +kernel, by decide +kernel⟩, by decide⟩
theorem mi_yX9_count : Cond.instanceMethod yX9_count ∈ lw_tbl := tq6 70 rfl
theorem ms_yX9_count : Cond.selects yX9_count.cls yX9_count yX9_count ∈ lw_tbl := tq6 71 rfl
theorem my_yX9_status : gY yX9_status cX9_status 1 (some .int) 0 := ⟨tq6 76 rfl, tq1 11 rfl, ⟨by decide +kernel, by decide +kernel, by decide +kernel⟩, by decide⟩
theorem mi_yX9_status : Cond.instanceMethod yX9_status ∈ lw_tbl := tq6 74 rfl
theorem ms_yX9_status : Cond.selects yX9_status.cls yX9_status yX9_status ∈ lw_tbl := tq6 75 rfl
theorem ml_RX5_22 : Cond.methodLink RX5 22 yJ7_fill_53178 ∈ lw_tbl := tq1 33 rfl
theorem ml_RX1_70 : Cond.methodLink RX1 70 yJ7_fill_53178 ∈ lw_tbl := tq1 183 rfl
theorem ml_RL_13 : Cond.methodLink RL 13 yX8_row ∈ lw_tbl := tq2 73 rfl
theorem ml_RX8_79 : Cond.methodLink RX8 79 yX8_isRow ∈ lw_tbl := tq2 77 rfl
theorem ml_RX8_85 : Cond.methodLink RX8 85 yX8_found ∈ lw_tbl := tq2 81 rfl
theorem ml_RX8_89 : Cond.methodLink RX8 89 yX5_lay ∈ lw_tbl := tq2 86 rfl
theorem ml_RX8_93 : Cond.methodLink RX8 93 yX8_fine ∈ lw_tbl := tq2 90 rfl
theorem ml_RL_18 : Cond.methodLink RL 18 yX8_set ∈ lw_tbl := tq2 94 rfl
theorem ml_RX8_97 : Cond.methodLink RX8 97 yX5_isMissing ∈ lw_tbl := tq2 98 rfl
theorem ml_RX8_100 : Cond.methodLink RX8 100 yX5_hasItems ∈ lw_tbl := tq2 102 rfl
theorem ml_RX8_104 : Cond.methodLink RX8 104 yX5_put ∈ lw_tbl := tq2 106 rfl
theorem ml_RL_22 : Cond.methodLink RL 22 yX8_copy ∈ lw_tbl := tq2 110 rfl
theorem ml_RX8_112 : Cond.methodLink RX8 112 yX5_bring ∈ lw_tbl := tq2 114 rfl
theorem ml_RL_27 : Cond.methodLink RL 27 yX8_drop ∈ lw_tbl := tq2 121 rfl
theorem ml_RX8_116 : Cond.methodLink RX8 116 yX5_remove ∈ lw_tbl := tq2 125 rfl
theorem ml_RL_34 : Cond.methodLink RL 34 yX8_feed ∈ lw_tbl := tq2 129 rfl
theorem ml_RX8_125 : Cond.methodLink RX8 125 yX7_push ∈ lw_tbl := tq2 134 rfl
theorem ml_RL_39 : Cond.methodLink RL 39 yX8_game ∈ lw_tbl := tq2 138 rfl
theorem ml_RX8_129 : Cond.methodLink RX8 129 yX4_readText ∈ lw_tbl := tq2 142 rfl
theorem ml_RX4_18 : Cond.methodLink RX4 18 yX1_empty ∈ lw_tbl := tq2 146 rfl
theorem ml_RX4_23 : Cond.methodLink RX4 23 yX7_rewind ∈ lw_tbl := tq2 150 rfl
theorem ml_RX7_31 : Cond.methodLink RX7 31 yX7_step ∈ lw_tbl := tq2 154 rfl
theorem ml_RX7_34 : Cond.methodLink RX7 34 yX7_isLetter ∈ lw_tbl := tq2 158 rfl
theorem ml_RX7_38 : Cond.methodLink RX7 38 yX7_stepOverName ∈ lw_tbl := tq2 161 rfl
theorem ml_RX7_49 : Cond.methodLink RX7 49 yX7_isName ∈ lw_tbl := tq2 166 rfl
theorem ml_RX7_59 : Cond.methodLink RX7 59 yJ0_length_8abf5 ∈ lw_tbl := tq2 170 rfl
theorem ml_RJ0_335 : Cond.methodLink RJ0 335 yJ0_coder_7d493 ∈ lw_tbl := tq2 174 rfl
theorem ml_RX7_64 : Cond.methodLink RX7 64 yJ0_charAt_5068e ∈ lw_tbl := tq2 180 rfl
theorem ml_RJ0_492 : Cond.methodLink RJ0 492 yJ0_isLatin1_aae02 ∈ lw_tbl := tq2 184 rfl
theorem ml_RJ0_495 : Cond.methodLink RJ0 495 yJ1_charAt_3b067 ∈ lw_tbl := tq2 188 rfl
theorem ml_RJ1_9 : Cond.methodLink RJ1 9 yJ0_checkIndex_df160 ∈ lw_tbl := tq2 191 rfl
theorem ml_RX7_41 : Cond.methodLink RX7 41 yX7_isFigure ∈ lw_tbl := tq2 221 rfl
theorem ml_RX7_44 : Cond.methodLink RX7 44 yX7_stepOverNumber ∈ lw_tbl := tq2 224 rfl
theorem ml_RX4_29 : Cond.methodLink RX4 29 yX4_readPlace ∈ lw_tbl := tq2 229 rfl
theorem ml_RX4_36 : Cond.methodLink RX4 36 yX4_fail ∈ lw_tbl := tq2 233 rfl
theorem ml_RX4_56 : Cond.methodLink RX4 56 yX1_add ∈ lw_tbl := tq2 237 rfl
theorem ml_RX4_40 : Cond.methodLink RX4 40 yX7_step ∈ lw_tbl := tq3 1 rfl
theorem ml_RX4_60 : Cond.methodLink RX4 60 yX4_readPay ∈ lw_tbl := tq3 2 rfl
theorem ml_RX4_64 : Cond.methodLink RX4 64 yX4_readDeal ∈ lw_tbl := tq3 6 rfl
theorem ml_RX4_67 : Cond.methodLink RX4 67 yX4_readHeld ∈ lw_tbl := tq3 10 rfl
theorem ml_RX4_82 : Cond.methodLink RX4 82 yX1_maySetBeOf ∈ lw_tbl := tq3 14 rfl
theorem ml_RX4_86 : Cond.methodLink RX4 86 yX1_maySetHave ∈ lw_tbl := tq3 18 rfl
theorem ml_RX4_89 : Cond.methodLink RX4 89 yX1_putIntoSet ∈ lw_tbl := tq3 22 rfl
theorem ml_RX4_43 : Cond.methodLink RX4 43 yX1_finish ∈ lw_tbl := tq3 26 rfl
theorem ml_RX1_76 : Cond.methodLink RX1 76 yX1_tellPast ∈ lw_tbl := tq3 30 rfl
theorem ml_RX1_80 : Cond.methodLink RX1 80 yX1_isHeld ∈ lw_tbl := tq3 35 rfl
theorem ml_RX8_141 : Cond.methodLink RX8 141 yX3_begin ∈ lw_tbl := tq3 40 rfl
theorem ml_RX3_15 : Cond.methodLink RX3 15 yX3_giveAllTo ∈ lw_tbl := tq3 44 rfl
theorem ml_RX3_19 : Cond.methodLink RX3 19 yX3_give ∈ lw_tbl := tq3 48 rfl
theorem ml_RX8_144 : Cond.methodLink RX8 144 yX2_begin ∈ lw_tbl := tq3 52 rfl
theorem ml_RX2_36 : Cond.methodLink RX2 36 yJ7_fill_d0a16 ∈ lw_tbl := tq3 56 rfl
theorem ml_RL_44 : Cond.methodLink RL 44 yX8_fault ∈ lw_tbl := tq3 59 rfl
theorem ml_RL_49 : Cond.methodLink RL 49 yX8_place ∈ lw_tbl := tq3 63 rfl
theorem ml_RX8_148 : Cond.methodLink RX8 148 yX8_isPlace ∈ lw_tbl := tq3 67 rfl
theorem ml_RL_54 : Cond.methodLink RL 54 yX8_seen ∈ lw_tbl := tq3 71 rfl
theorem ml_RL_58 : Cond.methodLink RL 58 yX8_forgets ∈ lw_tbl := tq3 75 rfl
theorem ml_RX8_178 : Cond.methodLink RX8 178 yX8_isPlayer ∈ lw_tbl := tq3 79 rfl
theorem ml_RL_62 : Cond.methodLink RL 62 yX8_mix ∈ lw_tbl := tq3 82 rfl
theorem ml_RX8_185 : Cond.methodLink RX8 185 yX8_isSet ∈ lw_tbl := tq3 86 rfl
theorem ml_RX8_188 : Cond.methodLink RX8 188 yX5_hasShares ∈ lw_tbl := tq3 90 rfl
theorem ml_RX5_38 : Cond.methodLink RX5 38 yX5_itemAt ∈ lw_tbl := tq3 94 rfl
theorem ml_RX8_191 : Cond.methodLink RX8 191 yX5_itemAt ∈ lw_tbl := tq3 98 rfl
theorem ml_RX8_195 : Cond.methodLink RX8 195 yX3_give ∈ lw_tbl := tq3 99 rfl
theorem ml_RL_66 : Cond.methodLink RL 66 yX8_share ∈ lw_tbl := tq3 100 rfl
theorem ml_RX8_198 : Cond.methodLink RX8 198 yX8_isAct ∈ lw_tbl := tq3 104 rfl
theorem ml_RX8_202 : Cond.methodLink RX8 202 yX3_shareOf ∈ lw_tbl := tq3 108 rfl
theorem ml_RL_70 : Cond.methodLink RL 70 yX8_value ∈ lw_tbl := tq3 112 rfl
theorem ml_RX8_205 : Cond.methodLink RX8 205 yX8_hasGame ∈ lw_tbl := tq3 116 rfl
theorem ml_RX8_209 : Cond.methodLink RX8 209 yX8_valueOfPlan ∈ lw_tbl := tq3 120 rfl
theorem ml_RX8_216 : Cond.methodLink RX8 216 yX3_workOut ∈ lw_tbl := tq3 125 rfl
theorem ml_RX3_46 : Cond.methodLink RX3 46 yX3_shareOf ∈ lw_tbl := tq3 130 rfl
theorem ml_RL_74 : Cond.methodLink RL 74 yX8_reach ∈ lw_tbl := tq3 133 rfl
theorem ml_RL_78 : Cond.methodLink RL 78 yX8_best ∈ lw_tbl := tq3 137 rfl
theorem ml_RX8_220 : Cond.methodLink RX8 220 yX8_valueOfAnswer ∈ lw_tbl := tq3 141 rfl
theorem ml_RX8_234 : Cond.methodLink RX8 234 yX6_solve ∈ lw_tbl := tq3 145 rfl
theorem ml_RX6_36 : Cond.methodLink RX6 36 yX6_tellGroups ∈ lw_tbl := tq3 149 rfl
theorem ml_RX6_73 : Cond.methodLink RX6 73 yX1_isHeld ∈ lw_tbl := tq3 153 rfl
theorem ml_RX6_77 : Cond.methodLink RX6 77 yX6_leastAlike ∈ lw_tbl := tq3 154 rfl
theorem ml_RX6_40 : Cond.methodLink RX6 40 yX1_mostOwnActs ∈ lw_tbl := tq3 158 rfl
theorem ml_RX1_86 : Cond.methodLink RX1 86 yX1_ownActsTo ∈ lw_tbl := tq3 162 rfl
theorem ml_RX1_90 : Cond.methodLink RX1 90 yJ9_max_7cf53 ∈ lw_tbl := tq3 166 rfl
theorem ml_RX6_46 : Cond.methodLink RX6 46 yX6_addUp ∈ lw_tbl := tq3 169 rfl
theorem ml_RX6_81 : Cond.methodLink RX6 81 yX6_isOwn ∈ lw_tbl := tq3 173 rfl
theorem ml_RX6_104 : Cond.methodLink RX6 104 yX1_ownActsTo ∈ lw_tbl := tq3 176 rfl
theorem ml_RX6_88 : Cond.methodLink RX6 88 yX1_wayTo ∈ lw_tbl := tq3 177 rfl
theorem ml_RX6_50 : Cond.methodLink RX6 50 yX6_chooseActs ∈ lw_tbl := tq3 181 rfl
theorem ml_RX6_92 : Cond.methodLink RX6 92 yX6_chooseAct ∈ lw_tbl := tq3 185 rfl
theorem ml_RX6_96 : Cond.methodLink RX6 96 yX6_isBarred ∈ lw_tbl := tq3 189 rfl
theorem ml_RX6_53 : Cond.methodLink RX6 53 yX6_weigh ∈ lw_tbl := tq3 196 rfl
theorem ml_RX6_107 : Cond.methodLink RX6 107 yX6_worthOf ∈ lw_tbl := tq3 200 rfl
theorem ml_RX8_223 : Cond.methodLink RX8 223 yX8_gainOf ∈ lw_tbl := tq3 204 rfl
theorem ml_RL_82 : Cond.methodLink RL 82 yX8_answer ∈ lw_tbl := tq3 205 rfl
theorem ml_RX8_227 : Cond.methodLink RX8 227 yX6_actOf ∈ lw_tbl := tq3 209 rfl
theorem ml_RL_86 : Cond.methodLink RL 86 yX8_belief ∈ lw_tbl := tq3 213 rfl
theorem ml_RX8_231 : Cond.methodLink RX8 231 yX1_isHeld ∈ lw_tbl := tq3 217 rfl
theorem ml_RL_90 : Cond.methodLink RL 90 yX8_seeing ∈ lw_tbl := tq3 218 rfl
theorem ml_RL_94 : Cond.methodLink RL 94 yX8_fewer ∈ lw_tbl := tq3 222 rfl
theorem ml_RX8_238 : Cond.methodLink RX8 238 yX6_solveBarred ∈ lw_tbl := tq3 226 rfl
theorem ml_RX6_57 : Cond.methodLink RX6 57 yX6_solve ∈ lw_tbl := tq3 230 rfl
theorem ml_RL_98 : Cond.methodLink RL 98 yX8_rounds ∈ lw_tbl := tq3 231 rfl
theorem ml_RX8_243 : Cond.methodLink RX8 243 yJ9_min_7cf53 ∈ lw_tbl := tq3 235 rfl
theorem ml_RX8_248 : Cond.methodLink RX8 248 yX2_playOn ∈ lw_tbl := tq3 238 rfl
theorem ml_RX2_42 : Cond.methodLink RX2 42 yX2_noteAnswer ∈ lw_tbl := tq4 2 rfl
theorem ml_RX2_54 : Cond.methodLink RX2 54 yX2_reachOf ∈ lw_tbl := tq4 6 rfl
theorem ml_RX2_59 : Cond.methodLink RX2 59 yX6_solve ∈ lw_tbl := tq4 11 rfl
theorem ml_RX2_70 : Cond.methodLink RX2 70 yX6_actOf ∈ lw_tbl := tq4 12 rfl
theorem ml_RX2_46 : Cond.methodLink RX2 46 yX2_putInto ∈ lw_tbl := tq4 13 rfl
theorem ml_RX2_79 : Cond.methodLink RX2 79 yX3_giveAllTo ∈ lw_tbl := tq4 17 rfl
theorem ml_RX2_50 : Cond.methodLink RX2 50 yX2_addReach ∈ lw_tbl := tq4 18 rfl
theorem ml_RX2_74 : Cond.methodLink RX2 74 yX3_workOut ∈ lw_tbl := tq4 22 rfl
theorem ml_RL_102 : Cond.methodLink RL 102 yX8_bound ∈ lw_tbl := tq4 23 rfl
theorem ml_RX8_252 : Cond.methodLink RX8 252 yX2_reachOf ∈ lw_tbl := tq4 27 rfl
theorem ml_RL_106 : Cond.methodLink RL 106 yX8_mean ∈ lw_tbl := tq4 28 rfl
theorem ml_RX8_256 : Cond.methodLink RX8 256 yX2_timesDone ∈ lw_tbl := tq4 32 rfl
theorem ml_RL_110 : Cond.methodLink RL 110 yX8_take ∈ lw_tbl := tq4 36 rfl
theorem ml_RX8_259 : Cond.methodLink RX8 259 yX2_putInto ∈ lw_tbl := tq4 40 rfl
theorem ml_RL_114 : Cond.methodLink RL 114 yX8_kind ∈ lw_tbl := tq4 41 rfl
theorem ml_RX8_263 : Cond.methodLink RX8 263 yX1_kindOf ∈ lw_tbl := tq4 45 rfl
theorem ml_RL_118 : Cond.methodLink RL 118 yX8_as ∈ lw_tbl := tq4 49 rfl
theorem ml_RX8_266 : Cond.methodLink RX8 266 yX1_isOfKind ∈ lw_tbl := tq4 53 rfl
theorem ml_RX1_95 : Cond.methodLink RX1 95 yX1_kindOf ∈ lw_tbl := tq4 57 rfl
theorem ml_RL_122 : Cond.methodLink RL 122 yX8_ask ∈ lw_tbl := tq4 58 rfl
theorem ml_RX8_269 : Cond.methodLink RX8 269 yX0_askSize ∈ lw_tbl := tq4 62 rfl
theorem ml_RX0_19 : Cond.methodLink RX0 19 yX0_sizeBody ∈ lw_tbl := tq4 66 rfl
theorem ml_RX0_30 : Cond.methodLink RX0 30 yX1_kindOf ∈ lw_tbl := tq4 69 rfl
theorem ml_RX0_23 : Cond.methodLink RX0 23 yX0_runBody ∈ lw_tbl := tq4 70 rfl
theorem ml_RX0_36 : Cond.methodLink RX0 36 yX0_leave ∈ lw_tbl := tq4 74 rfl
theorem ml_RX0_27 : Cond.methodLink RX0 27 yX0_markBody ∈ lw_tbl := tq4 78 rfl
theorem ml_RX8_273 : Cond.methodLink RX8 273 yX0_askMark ∈ lw_tbl := tq4 83 rfl
theorem ml_RL_126 : Cond.methodLink RL 126 yX8_trace ∈ lw_tbl := tq4 87 rfl
theorem ml_RL_131 : Cond.methodLink RL 131 yX8_count ∈ lw_tbl := tq4 91 rfl
theorem ml_RX8_282 : Cond.methodLink RX8 282 yX5_countRows ∈ lw_tbl := tq4 95 rfl
theorem ml_RX5_34 : Cond.methodLink RX5 34 yX5_isMissing ∈ lw_tbl := tq4 99 rfl
theorem ml_RX8_286 : Cond.methodLink RX8 286 yX1_countOf ∈ lw_tbl := tq4 100 rfl
theorem ml_RX8_289 : Cond.methodLink RX8 289 yX1_countSets ∈ lw_tbl := tq4 104 rfl
theorem ml_RL_135 : Cond.methodLink RL 135 yX8_status ∈ lw_tbl := tq4 108 rfl
theorem ml_RL_17 : Cond.methodLink RL 17 yX9_row ∈ lw_tbl := tq4 239 rfl
theorem ml_RX9_101 : Cond.methodLink RX9 101 yX9_isRow ∈ lw_tbl := tq5 3 rfl
theorem ml_RX9_91 : Cond.methodLink RX9 91 yX9_in ∈ lw_tbl := tq5 7 rfl
theorem ml_RX9_109 : Cond.methodLink RX9 109 yX9_found ∈ lw_tbl := tq5 12 rfl
theorem ml_RX9_113 : Cond.methodLink RX9 113 yX9_taken ∈ lw_tbl := tq5 17 rfl
theorem ml_RL_21 : Cond.methodLink RL 21 yX9_set ∈ lw_tbl := tq5 21 rfl
theorem ml_RL_26 : Cond.methodLink RL 26 yX9_copy ∈ lw_tbl := tq5 25 rfl
theorem ml_RL_31 : Cond.methodLink RL 31 yX9_drop ∈ lw_tbl := tq5 29 rfl
theorem ml_RL_38 : Cond.methodLink RL 38 yX9_feed ∈ lw_tbl := tq5 33 rfl
theorem ml_RL_43 : Cond.methodLink RL 43 yX9_game ∈ lw_tbl := tq5 40 rfl
theorem ml_RX9_184 : Cond.methodLink RX9 184 yX9_readsAll ∈ lw_tbl := tq5 44 rfl
theorem ml_RX9_178 : Cond.methodLink RX9 178 yX9_readsShare ∈ lw_tbl := tq5 48 rfl
theorem ml_RX9_150 : Cond.methodLink RX9 150 yX9_token ∈ lw_tbl := tq5 52 rfl
theorem ml_RX9_181 : Cond.methodLink RX9 181 yX9_readsPlace ∈ lw_tbl := tq5 61 rfl
theorem ml_RX9_153 : Cond.methodLink RX9 153 yX9_wordNow ∈ lw_tbl := tq5 65 rfl
theorem ml_RX9_146 : Cond.methodLink RX9 146 yX9_isWord ∈ lw_tbl := tq5 69 rfl
theorem ml_RX9_164 : Cond.methodLink RX9 164 yX9_readsDeal ∈ lw_tbl := tq5 74 rfl
theorem ml_RX9_168 : Cond.methodLink RX9 168 yX9_readsHeld ∈ lw_tbl := tq5 79 rfl
theorem ml_RL_48 : Cond.methodLink RL 48 yX9_fault ∈ lw_tbl := tq5 85 rfl
theorem ml_RL_53 : Cond.methodLink RL 53 yX9_place ∈ lw_tbl := tq5 89 rfl
theorem ml_RX9_200 : Cond.methodLink RX9 200 yX9_isPlace ∈ lw_tbl := tq5 93 rfl
theorem ml_RL_57 : Cond.methodLink RL 57 yX9_seen ∈ lw_tbl := tq5 97 rfl
theorem ml_RX9_205 : Cond.methodLink RX9 205 yX9_placesIn ∈ lw_tbl := tq5 103 rfl
theorem ml_RL_61 : Cond.methodLink RL 61 yX9_forgets ∈ lw_tbl := tq5 107 rfl
theorem ml_RX9_222 : Cond.methodLink RX9 222 yX9_isForgetful ∈ lw_tbl := tq5 111 rfl
theorem ml_RX9_208 : Cond.methodLink RX9 208 yX9_isOf ∈ lw_tbl := tq5 115 rfl
theorem ml_RX9_218 : Cond.methodLink RX9 218 yX9_areAlike ∈ lw_tbl := tq5 119 rfl
theorem ml_RX9_212 : Cond.methodLink RX9 212 yX9_ownAbove ∈ lw_tbl := tq5 123 rfl
theorem ml_RX9_215 : Cond.methodLink RX9 215 yX9_wayTo ∈ lw_tbl := tq5 127 rfl
theorem ml_RL_65 : Cond.methodLink RL 65 yX9_mix ∈ lw_tbl := tq5 131 rfl
theorem ml_RX9_225 : Cond.methodLink RX9 225 yX9_isSet ∈ lw_tbl := tq5 135 rfl
theorem ml_RL_69 : Cond.methodLink RL 69 yX9_share ∈ lw_tbl := tq5 140 rfl
theorem ml_RL_73 : Cond.methodLink RL 73 yX9_value ∈ lw_tbl := tq5 144 rfl
theorem ml_RX9_242 : Cond.methodLink RX9 242 yX9_valueNow ∈ lw_tbl := tq5 149 rfl
theorem ml_RX9_236 : Cond.methodLink RX9 236 yX9_layReach ∈ lw_tbl := tq5 153 rfl
theorem ml_RX9_232 : Cond.methodLink RX9 232 yX9_shareTo ∈ lw_tbl := tq5 158 rfl
theorem ml_RL_77 : Cond.methodLink RL 77 yX9_reach ∈ lw_tbl := tq5 162 rfl
theorem ml_RL_81 : Cond.methodLink RL 81 yX9_best ∈ lw_tbl := tq5 166 rfl
theorem ml_RX9_275 : Cond.methodLink RX9 275 yX9_answerOf ∈ lw_tbl := tq5 170 rfl
theorem ml_RX9_266 : Cond.methodLink RX9 266 yX9_layGroups ∈ lw_tbl := tq5 174 rfl
theorem ml_RX9_269 : Cond.methodLink RX9 269 yX9_layCounts ∈ lw_tbl := tq5 178 rfl
theorem ml_RX9_272 : Cond.methodLink RX9 272 yX9_answerBy ∈ lw_tbl := tq5 182 rfl
theorem ml_RX9_256 : Cond.methodLink RX9 256 yX9_layWorth ∈ lw_tbl := tq5 186 rfl
theorem ml_RX9_260 : Cond.methodLink RX9 260 yX9_ownDeep ∈ lw_tbl := tq5 190 rfl
theorem ml_RX9_263 : Cond.methodLink RX9 263 yX9_bestAct ∈ lw_tbl := tq5 194 rfl
theorem ml_RX9_252 : Cond.methodLink RX9 252 yX9_worthOf ∈ lw_tbl := tq5 198 rfl
theorem ml_RX9_278 : Cond.methodLink RX9 278 yX9_gainOf ∈ lw_tbl := tq5 202 rfl
theorem ml_RL_85 : Cond.methodLink RL 85 yX9_answer ∈ lw_tbl := tq5 206 rfl
theorem ml_RL_89 : Cond.methodLink RL 89 yX9_belief ∈ lw_tbl := tq5 210 rfl
theorem ml_RL_93 : Cond.methodLink RL 93 yX9_seeing ∈ lw_tbl := tq5 214 rfl
theorem ml_RX9_281 : Cond.methodLink RX9 281 yX9_through ∈ lw_tbl := tq5 218 rfl
theorem ml_RL_97 : Cond.methodLink RL 97 yX9_fewer ∈ lw_tbl := tq5 222 rfl
theorem ml_RL_101 : Cond.methodLink RL 101 yX9_rounds ∈ lw_tbl := tq5 226 rfl
theorem ml_RX9_286 : Cond.methodLink RX9 286 yX9_againstRounds ∈ lw_tbl := tq5 231 rfl
theorem ml_RL_105 : Cond.methodLink RL 105 yX9_bound ∈ lw_tbl := tq5 235 rfl
theorem ml_RL_109 : Cond.methodLink RL 109 yX9_mean ∈ lw_tbl := tq5 239 rfl
theorem ml_RL_113 : Cond.methodLink RL 113 yX9_take ∈ lw_tbl := tq6 3 rfl
theorem ml_RL_117 : Cond.methodLink RL 117 yX9_kind ∈ lw_tbl := tq6 7 rfl
theorem ml_RX9_289 : Cond.methodLink RX9 289 yX9_kindOf ∈ lw_tbl := tq6 11 rfl
theorem ml_RL_121 : Cond.methodLink RL 121 yX9_as ∈ lw_tbl := tq6 15 rfl
theorem ml_RL_125 : Cond.methodLink RL 125 yX9_ask ∈ lw_tbl := tq6 20 rfl
theorem ml_RX9_320 : Cond.methodLink RX9 320 yX9_size11 ∈ lw_tbl := tq6 24 rfl
theorem ml_RX9_297 : Cond.methodLink RX9 297 yX9_note ∈ lw_tbl := tq6 28 rfl
theorem ml_RX9_311 : Cond.methodLink RX9 311 yX9_size10 ∈ lw_tbl := tq6 32 rfl
theorem ml_RX9_317 : Cond.methodLink RX9 317 yX9_size12 ∈ lw_tbl := tq6 36 rfl
theorem ml_RX9_314 : Cond.methodLink RX9 314 yX9_mark21 ∈ lw_tbl := tq6 40 rfl
theorem ml_RX9_303 : Cond.methodLink RX9 303 yX9_mark20 ∈ lw_tbl := tq6 44 rfl
theorem ml_RX9_323 : Cond.methodLink RX9 323 yX9_size13 ∈ lw_tbl := tq6 49 rfl
theorem ml_RX9_300 : Cond.methodLink RX9 300 yX9_size14 ∈ lw_tbl := tq6 53 rfl
theorem ml_RX9_308 : Cond.methodLink RX9 308 yX9_size15 ∈ lw_tbl := tq6 57 rfl
theorem ml_RX9_326 : Cond.methodLink RX9 326 yX9_mark22 ∈ lw_tbl := tq6 61 rfl
theorem ml_RL_130 : Cond.methodLink RL 130 yX9_trace ∈ lw_tbl := tq6 65 rfl
theorem ml_RL_134 : Cond.methodLink RL 134 yX9_count ∈ lw_tbl := tq6 69 rfl
theorem ml_RL_138 : Cond.methodLink RL 138 yX9_status ∈ lw_tbl := tq6 73 rfl
theorem kc_RX5_21 : Cond.constant RX5 21 (-1000000) ∈ lw_tbl := tq1 32 rfl
theorem kc_RX6_28 : Cond.constant RX6 28 (-1000000) ∈ lw_tbl := tq1 109 rfl
theorem kc_RX1_69 : Cond.constant RX1 69 (-1000000) ∈ lw_tbl := tq1 182 rfl
theorem kc_RX4_28 : Cond.constant RX4 28 (-1000000) ∈ lw_tbl := tq2 228 rfl
theorem kc_RX8_215 : Cond.constant RX8 215 (-1000000) ∈ lw_tbl := tq3 124 rfl
theorem kc_RX2_58 : Cond.constant RX2 58 (-1000000) ∈ lw_tbl := tq4 10 rfl
theorem kc_RX9_163 : Cond.constant RX9 163 (-1000000) ∈ lw_tbl := tq5 73 rfl
theorem kc_RX8_83 : Cond.constantLong RX8 83 (-9000000000000000001) ∈ lw_tbl := tq2 80 rfl
theorem kc_RX8_292 : Cond.constantLong RX8 292 (-9000000000000000010) ∈ lw_tbl := tq2 85 rfl
theorem kc_RX8_123 : Cond.constantLong RX8 123 (-9000000000000000003) ∈ lw_tbl := tq2 133 rfl
theorem kc_RX1_84 : Cond.constantLong RX1 84 (31) ∈ lw_tbl := tq3 34 rfl
theorem kc_RX8_136 : Cond.constantLong RX8 136 (-9000000000000000100) ∈ lw_tbl := tq3 39 rfl
theorem kc_RX3_23 : Cond.constantLong RX3 23 (429981696) ∈ lw_tbl := tq3 129 rfl
theorem kc_RX3_50 : Cond.constantLong RX3 50 (12) ∈ lw_tbl := tq3 131 rfl
theorem kc_RX8_213 : Cond.constantLong RX8 213 (-9000000000000000002) ∈ lw_tbl := tq3 132 rfl
theorem kc_RX0_52 : Cond.constantLong RX0 52 (2) ∈ lw_tbl := tq4 81 rfl
theorem kc_RX0_54 : Cond.constantLong RX0 54 (100) ∈ lw_tbl := tq4 82 rfl
theorem kc_RX9_89 : Cond.constantLong RX9 89 (7) ∈ lw_tbl := tq5 6 rfl
theorem kc_RX9_105 : Cond.constantLong RX9 105 (2) ∈ lw_tbl := tq5 10 rfl
theorem kc_RX9_107 : Cond.constantLong RX9 107 (-9000000000000000001) ∈ lw_tbl := tq5 11 rfl
theorem kc_RX9_99 : Cond.constantLong RX9 99 (-9000000000000000010) ∈ lw_tbl := tq5 16 rfl
theorem kc_RX9_117 : Cond.constantLong RX9 117 (8) ∈ lw_tbl := tq5 37 rfl
theorem kc_RX9_122 : Cond.constantLong RX9 122 (-9000000000000000003) ∈ lw_tbl := tq5 38 rfl
theorem kc_RX9_124 : Cond.constantLong RX9 124 (255) ∈ lw_tbl := tq5 39 rfl
theorem kc_RX9_135 : Cond.constantLong RX9 135 (97) ∈ lw_tbl := tq5 56 rfl
theorem kc_RX9_137 : Cond.constantLong RX9 137 (122) ∈ lw_tbl := tq5 57 rfl
theorem kc_RX9_139 : Cond.constantLong RX9 139 (48) ∈ lw_tbl := tq5 58 rfl
theorem kc_RX9_141 : Cond.constantLong RX9 141 (57) ∈ lw_tbl := tq5 59 rfl
theorem kc_RX9_176 : Cond.constantLong RX9 176 (11) ∈ lw_tbl := tq5 60 rfl
theorem kc_RX9_172 : Cond.constantLong RX9 172 (4) ∈ lw_tbl := tq5 78 rfl
theorem kc_RX9_174 : Cond.constantLong RX9 174 (3) ∈ lw_tbl := tq5 83 rfl
theorem kc_RX9_190 : Cond.constantLong RX9 190 (-9000000000000000100) ∈ lw_tbl := tq5 84 rfl
theorem kc_RX9_198 : Cond.constantLong RX9 198 (9) ∈ lw_tbl := tq5 101 rfl
theorem kc_RX9_203 : Cond.constantLong RX9 203 (-1000000) ∈ lw_tbl := tq5 102 rfl
theorem kc_RX9_228 : Cond.constantLong RX9 228 (12) ∈ lw_tbl := tq5 139 rfl
theorem kc_RX9_240 : Cond.constantLong RX9 240 (-9000000000000000002) ∈ lw_tbl := tq5 148 rfl
theorem kc_RX9_230 : Cond.constantLong RX9 230 (429981696) ∈ lw_tbl := tq5 157 rfl
theorem kc_RX9_284 : Cond.constantLong RX9 284 (60) ∈ lw_tbl := tq5 230 rfl
theorem kc_RX9_292 : Cond.constantLong RX9 292 (5) ∈ lw_tbl := tq6 19 rfl
theorem kc_RX9_306 : Cond.constantLong RX9 306 (100) ∈ lw_tbl := tq6 48 rfl
theorem kc_RL_32 : Cond.constantLong RL 32 (4294967295) ∈ lw_tbl := tq6 77 rfl
theorem kI_m1 : Int32.ofInt (-1) = -1 := by decide
theorem kI_0 : Int32.ofInt (0) = 0 := by decide
theorem kI_1 : Int32.ofInt (1) = 1 := by decide
theorem kI_2 : Int32.ofInt (2) = 2 := by decide
theorem kI_3 : Int32.ofInt (3) = 3 := by decide
theorem kI_4 : Int32.ofInt (4) = 4 := by decide
theorem kI_5 : Int32.ofInt (5) = 5 := by decide
theorem ii_m2 (x : Int32) : x + Int32.ofInt (-2) = x + (-2) := by rw [show Int32.ofInt (-2) = -2 from by decide]
theorem ii_m1 (x : Int32) : x + Int32.ofInt (-1) = x + (-1) := by rw [show Int32.ofInt (-1) = -1 from by decide]
theorem ii_0 (x : Int32) : x + Int32.ofInt (0) = x + (0) := by rw [show Int32.ofInt (0) = 0 from by decide]
theorem ii_1 (x : Int32) : x + Int32.ofInt (1) = x + (1) := by rw [show Int32.ofInt (1) = 1 from by decide]
theorem ii_2 (x : Int32) : x + Int32.ofInt (2) = x + (2) := by rw [show Int32.ofInt (2) = 2 from by decide]
theorem ii_3 (x : Int32) : x + Int32.ofInt (3) = x + (3) := by rw [show Int32.ofInt (3) = 3 from by decide]
theorem kB_6 : (Int8.ofInt (6)).toInt32 = 6 := by decide
theorem kB_7 : (Int8.ofInt (7)).toInt32 = 7 := by decide
theorem kB_8 : (Int8.ofInt (8)).toInt32 = 8 := by decide
theorem kB_9 : (Int8.ofInt (9)).toInt32 = 9 := by decide
theorem kB_10 : (Int8.ofInt (10)).toInt32 = 10 := by decide
theorem kB_11 : (Int8.ofInt (11)).toInt32 = 11 := by decide
theorem kB_12 : (Int8.ofInt (12)).toInt32 = 12 := by decide
theorem kB_13 : (Int8.ofInt (13)).toInt32 = 13 := by decide
theorem kB_14 : (Int8.ofInt (14)).toInt32 = 14 := by decide
theorem kB_15 : (Int8.ofInt (15)).toInt32 = 15 := by decide
theorem kB_16 : (Int8.ofInt (16)).toInt32 = 16 := by decide
theorem kB_17 : (Int8.ofInt (17)).toInt32 = 17 := by decide
theorem kB_18 : (Int8.ofInt (18)).toInt32 = 18 := by decide
theorem kB_19 : (Int8.ofInt (19)).toInt32 = 19 := by decide
theorem kB_20 : (Int8.ofInt (20)).toInt32 = 20 := by decide
theorem kB_21 : (Int8.ofInt (21)).toInt32 = 21 := by decide
theorem kB_22 : (Int8.ofInt (22)).toInt32 = 22 := by decide
theorem kB_30 : (Int8.ofInt (30)).toInt32 = 30 := by decide
theorem kB_31 : (Int8.ofInt (31)).toInt32 = 31 := by decide
theorem kB_32 : (Int8.ofInt (32)).toInt32 = 32 := by decide
theorem kB_40 : (Int8.ofInt (40)).toInt32 = 40 := by decide
theorem kB_48 : (Int8.ofInt (48)).toInt32 = 48 := by decide
theorem kB_50 : (Int8.ofInt (50)).toInt32 = 50 := by decide
theorem kB_57 : (Int8.ofInt (57)).toInt32 = 57 := by decide
theorem kB_59 : (Int8.ofInt (59)).toInt32 = 59 := by decide
theorem kB_60 : (Int8.ofInt (60)).toInt32 = 60 := by decide
theorem kB_97 : (Int8.ofInt (97)).toInt32 = 97 := by decide
theorem kB_100 : (Int8.ofInt (100)).toInt32 = 100 := by decide
theorem kB_101 : (Int8.ofInt (101)).toInt32 = 101 := by decide
theorem kB_108 : (Int8.ofInt (108)).toInt32 = 108 := by decide
theorem kB_110 : (Int8.ofInt (110)).toInt32 = 110 := by decide
theorem kB_111 : (Int8.ofInt (111)).toInt32 = 111 := by decide
theorem kB_116 : (Int8.ofInt (116)).toInt32 = 116 := by decide
theorem kB_119 : (Int8.ofInt (119)).toInt32 = 119 := by decide
theorem kB_120 : (Int8.ofInt (120)).toInt32 = 120 := by decide
theorem kB_122 : (Int8.ofInt (122)).toInt32 = 122 := by decide
theorem kS_180 : (Int16.ofInt (180)).toInt32 = 180 := by decide
theorem kS_240 : (Int16.ofInt (240)).toInt32 = 240 := by decide
theorem kS_255 : (Int16.ofInt (255)).toInt32 = 255 := by decide
theorem kS_320 : (Int16.ofInt (320)).toInt32 = 320 := by decide
theorem kS_480 : (Int16.ofInt (480)).toInt32 = 480 := by decide
theorem kS_600 : (Int16.ofInt (600)).toInt32 = 600 := by decide
theorem kL_0 : Int64.ofNat ((0 : Fin 2) : Nat) = 0 := by decide
theorem kL_1 : Int64.ofNat ((1 : Fin 2) : Nat) = 1 := by decide

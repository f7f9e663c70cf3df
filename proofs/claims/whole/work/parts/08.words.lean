theorem xboo {x : Int32} (h : x = 0 ∨ x = 1) : narrow .boolean (.int x) = .int x ∧ fits .boolean (.int x) = true := by
  rcases h with rfl | rfl <;> exact ⟨by decide, by decide⟩
set_option maxRecDepth 20000 in
theorem kw0 : Cond.selects "MeasureBook" yX10_putBytes yX10_putBytes ∈ xW := xW_of (List.mem_append_left _ (List.mem_of_getElem? (i := 0) rfl)) rfl
set_option maxRecDepth 20000 in
theorem kw1 : Cond.selects "MeasureBook" yX10_takeTape yX10_takeTape ∈ xW := xW_of (List.mem_append_left _ (List.mem_of_getElem? (i := 1) rfl)) rfl
set_option maxRecDepth 20000 in
theorem kw2 : Cond.selects "MeasureBook" yX10_readFile yX10_readFile ∈ xW := xW_of (List.mem_append_left _ (List.mem_of_getElem? (i := 2) rfl)) rfl
set_option maxRecDepth 20000 in
theorem kw3 : Cond.selects "MeasureBook" yX10_readLine yX10_readLine ∈ xW := xW_of (List.mem_append_left _ (List.mem_of_getElem? (i := 3) rfl)) rfl
set_option maxRecDepth 20000 in
theorem kw4 : Cond.selects "MeasureBook" yX10_openText yX10_openText ∈ xW := xW_of (List.mem_append_left _ (List.mem_of_getElem? (i := 4) rfl)) rfl
set_option maxRecDepth 20000 in
theorem kw5 : Cond.selects "MeasureBook" yX10_answerText yX10_answerText ∈ xW := xW_of (List.mem_append_left _ (List.mem_of_getElem? (i := 5) rfl)) rfl
set_option maxRecDepth 20000 in
theorem kw6 : Cond.selects "MeasureBook" yX10_isAlike yX10_isAlike ∈ xW := xW_of (List.mem_append_left _ (List.mem_of_getElem? (i := 6) rfl)) rfl
set_option maxRecDepth 20000 in
theorem kw7 : Cond.selects "MeasureBookModel" yX11_setOne yX11_setOne ∈ xW := xW_of (List.mem_append_left _ (List.mem_of_getElem? (i := 7) rfl)) rfl
set_option maxRecDepth 20000 in
theorem kw8 : Cond.selects "MeasureBookModel" yX11_setSmall yX11_setSmall ∈ xW := xW_of (List.mem_append_left _ (List.mem_of_getElem? (i := 8) rfl)) rfl
set_option maxRecDepth 20000 in
theorem kw9 : Cond.selects "MeasureBookModel" yX11_clear yX11_clear ∈ xW := xW_of (List.mem_append_left _ (List.mem_of_getElem? (i := 9) rfl)) rfl
set_option maxRecDepth 20000 in
theorem kw10 : Cond.selects "MeasureBookModel" yX11_count yX11_count ∈ xW := xW_of (List.mem_append_left _ (List.mem_of_getElem? (i := 10) rfl)) rfl
set_option maxRecDepth 20000 in
theorem kw11 : Cond.selects "MeasureBookModel" yX11_line yX11_line ∈ xW := xW_of (List.mem_append_left _ (List.mem_of_getElem? (i := 11) rfl)) rfl
set_option maxRecDepth 20000 in
theorem kw12 : Cond.selects "MeasureBookModel" yX11_lex yX11_lex ∈ xW := xW_of (List.mem_append_left _ (List.mem_of_getElem? (i := 12) rfl)) rfl
set_option maxRecDepth 20000 in
theorem kw13 : Cond.selects "MeasureBookModel" yX11_at yX11_at ∈ xW := xW_of (List.mem_append_left _ (List.mem_of_getElem? (i := 13) rfl)) rfl
set_option maxRecDepth 20000 in
theorem kw14 : Cond.selects "MeasureBookModel" yX11_number yX11_number ∈ xW := xW_of (List.mem_append_left _ (List.mem_of_getElem? (i := 14) rfl)) rfl
set_option maxRecDepth 20000 in
theorem kw15 : Cond.selects "MeasureBookModel" yX11_lineFails yX11_lineFails ∈ xW := xW_of (List.mem_append_left _ (List.mem_of_getElem? (i := 15) rfl)) rfl
set_option maxRecDepth 20000 in
theorem kw16 : Cond.selects "MeasureBookModel" yX11_isSign yX11_isSign ∈ xW := xW_of (List.mem_append_left _ (List.mem_of_getElem? (i := 16) rfl)) rfl
set_option maxRecDepth 20000 in
theorem kw17 : Cond.selects "MeasureBookModel" yX11_expression yX11_expression ∈ xW := xW_of (List.mem_append_left _ (List.mem_of_getElem? (i := 17) rfl)) rfl
set_option maxRecDepth 20000 in
theorem kw18 : Cond.selects "MeasureBookModel" yX11_open yX11_open ∈ xW := xW_of (List.mem_append_left _ (List.mem_of_getElem? (i := 18) rfl)) rfl
set_option maxRecDepth 20000 in
theorem kw19 : Cond.selects "MeasureBookModel" yX11_readNumber yX11_readNumber ∈ xW := xW_of (List.mem_append_left _ (List.mem_of_getElem? (i := 19) rfl)) rfl
set_option maxRecDepth 20000 in
theorem kw20 : Cond.selects "MeasureBookModel" yX11_numberOf yX11_numberOf ∈ xW := xW_of (List.mem_append_left _ (List.mem_of_getElem? (i := 20) rfl)) rfl
set_option maxRecDepth 20000 in
theorem kw21 : Cond.selects "MeasureBookModel" yX11_multiplySmall yX11_multiplySmall ∈ xW := xW_of (List.mem_append_left _ (List.mem_of_getElem? (i := 21) rfl)) rfl
set_option maxRecDepth 20000 in
theorem kw22 : Cond.selects "MeasureBookModel" yX11_isZero yX11_isZero ∈ xW := xW_of (List.mem_append_left _ (List.mem_of_getElem? (i := 22) rfl)) rfl
set_option maxRecDepth 20000 in
theorem kw23 : Cond.selects "MeasureBookModel" yX11_reduce yX11_reduce ∈ xW := xW_of (List.mem_append_left _ (List.mem_of_getElem? (i := 23) rfl)) rfl
set_option maxRecDepth 20000 in
theorem kw24 : Cond.selects "MeasureBookModel" yX11_common yX11_common ∈ xW := xW_of (List.mem_append_left _ (List.mem_of_getElem? (i := 24) rfl)) rfl
set_option maxRecDepth 20000 in
theorem kw25 : Cond.selects "MeasureBookModel" yX11_isOne yX11_isOne ∈ xW := xW_of (List.mem_append_left _ (List.mem_of_getElem? (i := 25) rfl)) rfl
set_option maxRecDepth 20000 in
theorem kw26 : Cond.selects "MeasureBookModel" yX11_copy yX11_copy ∈ xW := xW_of (List.mem_append_left _ (List.mem_of_getElem? (i := 26) rfl)) rfl
set_option maxRecDepth 20000 in
theorem kw27 : Cond.selects "MeasureBookModel" yX11_isEven yX11_isEven ∈ xW := xW_of (List.mem_append_left _ (List.mem_of_getElem? (i := 27) rfl)) rfl
set_option maxRecDepth 20000 in
theorem kw28 : Cond.selects "MeasureBookModel" yX11_divideSmall yX11_divideSmall ∈ xW := xW_of (List.mem_append_left _ (List.mem_of_getElem? (i := 28) rfl)) rfl
set_option maxRecDepth 20000 in
theorem kw29 : Cond.selects "MeasureBookModel" yX11_compare yX11_compare ∈ xW := xW_of (List.mem_append_left _ (List.mem_of_getElem? (i := 29) rfl)) rfl
set_option maxRecDepth 20000 in
theorem kw30 : Cond.selects "MeasureBookModel" yX11_subtract yX11_subtract ∈ xW := xW_of (List.mem_append_left _ (List.mem_of_getElem? (i := 30) rfl)) rfl
set_option maxRecDepth 20000 in
theorem kw31 : Cond.selects "MeasureBookModel" yX11_divide yX11_divide ∈ xW := xW_of (List.mem_append_left _ (List.mem_of_getElem? (i := 31) rfl)) rfl
set_option maxRecDepth 20000 in
theorem kw32 : Cond.selects "MeasureBookModel" yX11_length yX11_length ∈ xW := xW_of (List.mem_append_left _ (List.mem_of_getElem? (i := 32) rfl)) rfl
set_option maxRecDepth 20000 in
theorem kw33 : Cond.selects "MeasureBookModel" yX11_bit yX11_bit ∈ xW := xW_of (List.mem_append_left _ (List.mem_of_getElem? (i := 33) rfl)) rfl
set_option maxRecDepth 20000 in
theorem kw34 : Cond.selects "MeasureBookModel" yX11_isLarge yX11_isLarge ∈ xW := xW_of (List.mem_append_left _ (List.mem_of_getElem? (i := 34) rfl)) rfl
set_option maxRecDepth 20000 in
theorem kw35 : Cond.selects "MeasureBookModel" yX11_fails yX11_fails ∈ xW := xW_of (List.mem_append_left _ (List.mem_of_getElem? (i := 35) rfl)) rfl
set_option maxRecDepth 20000 in
theorem kw36 : Cond.selects "MeasureBookModel" yX11_product yX11_product ∈ xW := xW_of (List.mem_append_left _ (List.mem_of_getElem? (i := 36) rfl)) rfl
set_option maxRecDepth 20000 in
theorem kw37 : Cond.selects "MeasureBookModel" yX11_arePowers yX11_arePowers ∈ xW := xW_of (List.mem_append_left _ (List.mem_of_getElem? (i := 37) rfl)) rfl
set_option maxRecDepth 20000 in
theorem kw38 : Cond.selects "MeasureBookModel" yX11_multiply yX11_multiply ∈ xW := xW_of (List.mem_append_left _ (List.mem_of_getElem? (i := 38) rfl)) rfl
set_option maxRecDepth 20000 in
theorem kw39 : Cond.selects "MeasureBookModel" yX11_readName yX11_readName ∈ xW := xW_of (List.mem_append_left _ (List.mem_of_getElem? (i := 39) rfl)) rfl
set_option maxRecDepth 20000 in
theorem kw40 : Cond.selects "MeasureBookModel" yX11_standsFor yX11_standsFor ∈ xW := xW_of (List.mem_append_left _ (List.mem_of_getElem? (i := 40) rfl)) rfl
set_option maxRecDepth 20000 in
theorem kw41 : Cond.selects "MeasureBookModel" yX11_measureOrMany yX11_measureOrMany ∈ xW := xW_of (List.mem_append_left _ (List.mem_of_getElem? (i := 41) rfl)) rfl
set_option maxRecDepth 20000 in
theorem kw42 : Cond.selects "MeasureBookModel" yX11_measure yX11_measure ∈ xW := xW_of (List.mem_append_left _ (List.mem_of_getElem? (i := 42) rfl)) rfl
set_option maxRecDepth 20000 in
theorem kw43 : Cond.selects "MeasureBookModel" yX11_isNamed yX11_isNamed ∈ xW := xW_of (List.mem_append_left _ (List.mem_of_getElem? (i := 43) rfl)) rfl
set_option maxRecDepth 20000 in
theorem kw44 : Cond.selects "MeasureBookModel" yX11_take yX11_take ∈ xW := xW_of (List.mem_append_left _ (List.mem_of_getElem? (i := 44) rfl)) rfl
set_option maxRecDepth 20000 in
theorem kw45 : Cond.selects "MeasureBookModel" yX11_readRaise yX11_readRaise ∈ xW := xW_of (List.mem_append_left _ (List.mem_of_getElem? (i := 45) rfl)) rfl
set_option maxRecDepth 20000 in
theorem kw46 : Cond.selects "MeasureBookModel" yX11_raise yX11_raise ∈ xW := xW_of (List.mem_append_left _ (List.mem_of_getElem? (i := 46) rfl)) rfl
set_option maxRecDepth 20000 in
theorem kw47 : Cond.selects "MeasureBookModel" yX11_endPower yX11_endPower ∈ xW := xW_of (List.mem_append_left _ (List.mem_of_getElem? (i := 47) rfl)) rfl
set_option maxRecDepth 20000 in
theorem kw48 : Cond.selects "MeasureBookModel" yX11_endRow yX11_endRow ∈ xW := xW_of (List.mem_append_left _ (List.mem_of_getElem? (i := 48) rfl)) rfl
set_option maxRecDepth 20000 in
theorem kw49 : Cond.selects "MeasureBookModel" yX11_endTerm yX11_endTerm ∈ xW := xW_of (List.mem_append_left _ (List.mem_of_getElem? (i := 49) rfl)) rfl
set_option maxRecDepth 20000 in
theorem kw50 : Cond.selects "MeasureBookModel" yX11_sum yX11_sum ∈ xW := xW_of (List.mem_append_left _ (List.mem_of_getElem? (i := 50) rfl)) rfl
set_option maxRecDepth 20000 in
theorem kw51 : Cond.selects "MeasureBookModel" yX11_areAlike yX11_areAlike ∈ xW := xW_of (List.mem_append_left _ (List.mem_of_getElem? (i := 51) rfl)) rfl
set_option maxRecDepth 20000 in
theorem kw52 : Cond.selects "MeasureBookModel" yX11_add yX11_add ∈ xW := xW_of (List.mem_append_left _ (List.mem_of_getElem? (i := 52) rfl)) rfl
set_option maxRecDepth 20000 in
theorem kw53 : Cond.selects "MeasureBookModel" yX11_isTwice yX11_isTwice ∈ xW := xW_of (List.mem_append_left _ (List.mem_of_getElem? (i := 53) rfl)) rfl
set_option maxRecDepth 20000 in
theorem kw54 : Cond.selects "MeasureBookModel" yX11_comes yX11_comes ∈ xW := xW_of (List.mem_append_left _ (List.mem_of_getElem? (i := 54) rfl)) rfl
set_option maxRecDepth 20000 in
theorem kw55 : Cond.selects "MeasureBookModel" yX11_failed yX11_failed ∈ xW := xW_of (List.mem_append_left _ (List.mem_of_getElem? (i := 55) rfl)) rfl
set_option maxRecDepth 20000 in
theorem kw56 : Cond.selects "MeasureBookModel" yX11_settle yX11_settle ∈ xW := xW_of (List.mem_append_left _ (List.mem_of_getElem? (i := 56) rfl)) rfl
set_option maxRecDepth 20000 in
theorem kw57 : Cond.selects "MeasureBookModel" yX11_follow yX11_follow ∈ xW := xW_of (List.mem_append_left _ (List.mem_of_getElem? (i := 57) rfl)) rfl
set_option maxRecDepth 20000 in
theorem kw58 : Cond.selects "MeasureBookModel" yX11_reads yX11_reads ∈ xW := xW_of (List.mem_append_left _ (List.mem_of_getElem? (i := 58) rfl)) rfl
set_option maxRecDepth 20000 in
theorem kw59 : Cond.selects "MeasureBookModel" yX11_has yX11_has ∈ xW := xW_of (List.mem_append_left _ (List.mem_of_getElem? (i := 59) rfl)) rfl
set_option maxRecDepth 20000 in
theorem kw60 : Cond.selects "MeasureBookModel" yX11_times yX11_times ∈ xW := xW_of (List.mem_append_left _ (List.mem_of_getElem? (i := 60) rfl)) rfl
set_option maxRecDepth 20000 in
theorem kw61 : Cond.selects "MeasureBookModel" yX11_isDefinition yX11_isDefinition ∈ xW := xW_of (List.mem_append_left _ (List.mem_of_getElem? (i := 61) rfl)) rfl
set_option maxRecDepth 20000 in
theorem kw62 : Cond.initialized "MeasureBookLaw" ∈ xW := xW_of (List.mem_append_right _ (List.mem_append_left _ (List.mem_of_getElem? (i := 0) rfl))) rfl
set_option maxRecDepth 20000 in
theorem kw63 : Cond.initialized "MeasureBook" ∈ xW := xW_of (List.mem_append_right _ (List.mem_append_left _ (List.mem_of_getElem? (i := 1) rfl))) rfl
set_option maxRecDepth 20000 in
theorem kw64 : Cond.initialized "MeasureBook$Book" ∈ xW := xW_of (List.mem_append_right _ (List.mem_append_left _ (List.mem_of_getElem? (i := 2) rfl))) rfl
set_option maxRecDepth 20000 in
theorem kw65 : Cond.initialized "MeasureBook$Code" ∈ xW := xW_of (List.mem_append_right _ (List.mem_append_left _ (List.mem_of_getElem? (i := 3) rfl))) rfl
set_option maxRecDepth 20000 in
theorem kw66 : Cond.initialized "MeasureBook$Parser" ∈ xW := xW_of (List.mem_append_right _ (List.mem_append_left _ (List.mem_of_getElem? (i := 4) rfl))) rfl
set_option maxRecDepth 20000 in
theorem kw67 : Cond.initialized "MeasureBook$Tokens" ∈ xW := xW_of (List.mem_append_right _ (List.mem_append_left _ (List.mem_of_getElem? (i := 5) rfl))) rfl
set_option maxRecDepth 20000 in
theorem kw68 : Cond.initialized "MeasureBook$Decimals" ∈ xW := xW_of (List.mem_append_right _ (List.mem_append_left _ (List.mem_of_getElem? (i := 6) rfl))) rfl
set_option maxRecDepth 20000 in
theorem kw69 : Cond.initialized "MeasureBook$Natural" ∈ xW := xW_of (List.mem_append_right _ (List.mem_append_left _ (List.mem_of_getElem? (i := 7) rfl))) rfl
set_option maxRecDepth 20000 in
theorem kw70 : Cond.initialized "MeasureBook$Value" ∈ xW := xW_of (List.mem_append_right _ (List.mem_append_left _ (List.mem_of_getElem? (i := 8) rfl))) rfl
set_option maxRecDepth 20000 in
theorem kw71 : Cond.initialized "java/lang/Math" ∈ xW := xW_of (List.mem_append_right _ (List.mem_append_left _ (List.mem_of_getElem? (i := 9) rfl))) rfl
set_option maxRecDepth 20000 in
theorem kw72 : Cond.initialized "MeasureBook$Reckoner" ∈ xW := xW_of (List.mem_append_right _ (List.mem_append_left _ (List.mem_of_getElem? (i := 10) rfl))) rfl
set_option maxRecDepth 20000 in
theorem kw73 : Cond.initialized "MeasureBook$Ledger" ∈ xW := xW_of (List.mem_append_right _ (List.mem_append_left _ (List.mem_of_getElem? (i := 11) rfl))) rfl
set_option maxRecDepth 20000 in
theorem kw74 : Cond.initialized "MeasureBook$Bench" ∈ xW := xW_of (List.mem_append_right _ (List.mem_append_left _ (List.mem_of_getElem? (i := 12) rfl))) rfl
set_option maxRecDepth 20000 in
theorem kw75 : Cond.initialized "MeasureBookModel" ∈ xW := xW_of (List.mem_append_right _ (List.mem_append_left _ (List.mem_of_getElem? (i := 13) rfl))) rfl
set_option maxRecDepth 20000 in
theorem kw76 : Cond.initialized "java/lang/System" ∈ xW := xW_of (List.mem_append_right _ (List.mem_append_left _ (List.mem_of_getElem? (i := 14) rfl))) rfl
set_option maxRecDepth 20000 in
theorem kw77 : Cond.initialized "java/util/Arrays" ∈ xW := xW_of (List.mem_append_right _ (List.mem_append_left _ (List.mem_of_getElem? (i := 15) rfl))) rfl
set_option maxRecDepth 20000 in
theorem kw78 : Cond.initialized "java/lang/Integer" ∈ xW := xW_of (List.mem_append_right _ (List.mem_append_left _ (List.mem_of_getElem? (i := 16) rfl))) rfl
set_option maxRecDepth 20000 in
theorem kw79 : Cond.classLink "MeasureBookLaw" 7 "MeasureBook" ∈ xW := xW_of (List.mem_append_right _ (List.mem_append_left _ (List.mem_of_getElem? (i := 17) rfl))) rfl
set_option maxRecDepth 20000 in
theorem kw80 : Cond.instantiable "MeasureBook" 11 ∈ xW := xW_of (List.mem_append_right _ (List.mem_append_left _ (List.mem_of_getElem? (i := 18) rfl))) rfl
set_option maxRecDepth 20000 in
theorem kw81 : Cond.methodLink "MeasureBookLaw" 15 yX10_init ∈ xW := xW_of (List.mem_append_right _ (List.mem_append_left _ (List.mem_of_getElem? (i := 19) rfl))) rfl
set_option maxRecDepth 20000 in
theorem kw82 : Cond.instanceMethod yX10_init ∈ xW := xW_of (List.mem_append_right _ (List.mem_append_left _ (List.mem_of_getElem? (i := 20) rfl))) rfl
set_option maxRecDepth 20000 in
theorem kw83 : Cond.code yX10_init cX10_init 2 none ∈ xW := xW_of (List.mem_append_right _ (List.mem_append_left _ (List.mem_of_getElem? (i := 21) rfl))) rfl
set_option maxRecDepth 20000 in
theorem kw84 : Cond.methodLink "MeasureBook" 3 objectInit ∈ xW := xW_of (List.mem_append_right _ (List.mem_append_left _ (List.mem_of_getElem? (i := 22) rfl))) rfl
set_option maxRecDepth 20000 in
theorem kw85 : Cond.instanceMethod objectInit ∈ xW := xW_of (List.mem_append_right _ (List.mem_append_left _ (List.mem_of_getElem? (i := 23) rfl))) rfl
set_option maxRecDepth 20000 in
theorem kw86 : Cond.code objectInit ⟨#[0xb1]⟩ 1 none ∈ xW := xW_of (List.mem_append_right _ (List.mem_append_left _ (List.mem_of_getElem? (i := 24) rfl))) rfl
set_option maxRecDepth 20000 in
theorem kw87 : Cond.classLink "MeasureBook" 13 "MeasureBook$Book" ∈ xW := xW_of (List.mem_append_right _ (List.mem_append_left _ (List.mem_of_getElem? (i := 25) rfl))) rfl
set_option maxRecDepth 20000 in
theorem kw88 : Cond.instantiable "MeasureBook$Book" 13 ∈ xW := xW_of (List.mem_append_right _ (List.mem_append_left _ (List.mem_of_getElem? (i := 26) rfl))) rfl
set_option maxRecDepth 20000 in
theorem kw90 : Cond.instanceMethod yX1_init ∈ xW := xW_of (List.mem_append_right _ (List.mem_append_left _ (List.mem_of_getElem? (i := 28) rfl))) rfl
set_option maxRecDepth 20000 in
theorem kw91 : Cond.code yX1_init cX1_init 1 none ∈ xW := xW_of (List.mem_append_right _ (List.mem_append_left _ (List.mem_of_getElem? (i := 29) rfl))) rfl
set_option maxRecDepth 20000 in
theorem kw92 : Cond.methodLink "MeasureBook$Book" 3 objectInit ∈ xW := xW_of (List.mem_append_right _ (List.mem_append_left _ (List.mem_of_getElem? (i := 30) rfl))) rfl
set_option maxRecDepth 20000 in
theorem kw93 : Cond.classLink "MeasureBook$Book" 15 "MeasureBook$Code" ∈ xW := xW_of (List.mem_append_right _ (List.mem_append_left _ (List.mem_of_getElem? (i := 31) rfl))) rfl
set_option maxRecDepth 20000 in
theorem kw94 : Cond.instantiable "MeasureBook$Code" 4 ∈ xW := xW_of (List.mem_append_right _ (List.mem_append_left _ (List.mem_of_getElem? (i := 32) rfl))) rfl
set_option maxRecDepth 20000 in
theorem kw96 : Cond.instanceMethod yX2_init ∈ xW := xW_of (List.mem_append_right _ (List.mem_append_left _ (List.mem_of_getElem? (i := 34) rfl))) rfl
set_option maxRecDepth 20000 in
theorem kw97 : Cond.code yX2_init cX2_init 1 none ∈ xW := xW_of (List.mem_append_right _ (List.mem_append_left _ (List.mem_of_getElem? (i := 35) rfl))) rfl
set_option maxRecDepth 20000 in
theorem kw98 : Cond.methodLink "MeasureBook$Code" 3 objectInit ∈ xW := xW_of (List.mem_append_right _ (List.mem_append_left _ (List.mem_of_getElem? (i := 36) rfl))) rfl
set_option maxRecDepth 20000 in
theorem kw99 : Cond.fieldLink "MeasureBook$Code" 9 "MeasureBook$Code" "steps" "[I" ∈ xW := xW_of (List.mem_append_right _ (List.mem_append_left _ (List.mem_of_getElem? (i := 37) rfl))) rfl
set_option maxRecDepth 20000 in
theorem kw100 : Cond.fieldLink "MeasureBook$Reckoner" 126 "MeasureBook$Code" "steps" "[I" ∈ xW := xW_of (List.mem_append_right _ (List.mem_append_left _ (List.mem_of_getElem? (i := 38) rfl))) rfl
set_option maxRecDepth 20000 in
theorem kw101 : Cond.fieldLink "MeasureBook$Code" 15 "MeasureBook$Code" "places" "[I" ∈ xW := xW_of (List.mem_append_right _ (List.mem_append_left _ (List.mem_of_getElem? (i := 39) rfl))) rfl
set_option maxRecDepth 20000 in
theorem kw102 : Cond.fieldLink "MeasureBook$Reckoner" 134 "MeasureBook$Code" "places" "[I" ∈ xW := xW_of (List.mem_append_right _ (List.mem_append_left _ (List.mem_of_getElem? (i := 40) rfl))) rfl
set_option maxRecDepth 20000 in
theorem kw103 : Cond.fieldLink "MeasureBook$Code" 18 "MeasureBook$Code" "details" "[I" ∈ xW := xW_of (List.mem_append_right _ (List.mem_append_left _ (List.mem_of_getElem? (i := 41) rfl))) rfl
set_option maxRecDepth 20000 in
theorem kw104 : Cond.fieldLink "MeasureBook$Reckoner" 131 "MeasureBook$Code" "details" "[I" ∈ xW := xW_of (List.mem_append_right _ (List.mem_append_left _ (List.mem_of_getElem? (i := 42) rfl))) rfl
set_option maxRecDepth 20000 in
theorem kw105 : Cond.fieldLink "MeasureBook$Code" 21 "MeasureBook$Code" "size" "I" ∈ xW := xW_of (List.mem_append_right _ (List.mem_append_left _ (List.mem_of_getElem? (i := 43) rfl))) rfl
set_option maxRecDepth 20000 in
theorem kw106 : Cond.fieldLink "MeasureBook$Book" 78 "MeasureBook$Code" "size" "I" ∈ xW := xW_of (List.mem_append_right _ (List.mem_append_left _ (List.mem_of_getElem? (i := 44) rfl))) rfl
set_option maxRecDepth 20000 in
theorem kw107 : Cond.fieldLink "MeasureBook" 242 "MeasureBook$Code" "size" "I" ∈ xW := xW_of (List.mem_append_right _ (List.mem_append_left _ (List.mem_of_getElem? (i := 45) rfl))) rfl
set_option maxRecDepth 20000 in
theorem kw117 : Cond.arrayClass .byte ∈ xW := xW_of (List.mem_append_right _ (List.mem_append_left _ (List.mem_of_getElem? (i := 55) rfl))) rfl
set_option maxRecDepth 20000 in
theorem kw118 : Cond.arrayClass .int ∈ xW := xW_of (List.mem_append_right _ (List.mem_append_left _ (List.mem_of_getElem? (i := 56) rfl))) rfl
set_option maxRecDepth 20000 in
theorem kw119 : Cond.fieldLink "MeasureBook$Book" 9 "MeasureBook$Book" "text" "[B" ∈ xW := xW_of (List.mem_append_right _ (List.mem_append_left _ (List.mem_of_getElem? (i := 57) rfl))) rfl
set_option maxRecDepth 20000 in
theorem kw120 : Cond.fieldLink "MeasureBook$Reckoner" 160 "MeasureBook$Book" "text" "[B" ∈ xW := xW_of (List.mem_append_right _ (List.mem_append_left _ (List.mem_of_getElem? (i := 58) rfl))) rfl
set_option maxRecDepth 20000 in
theorem kw121 : Cond.fieldLink "MeasureBook" 215 "MeasureBook$Book" "text" "[B" ∈ xW := xW_of (List.mem_append_right _ (List.mem_append_left _ (List.mem_of_getElem? (i := 59) rfl))) rfl
set_option maxRecDepth 20000 in
theorem kw122 : Cond.fieldLink "MeasureBook$Book" 18 "MeasureBook$Book" "code" "LMeasureBook$Code;" ∈ xW := xW_of (List.mem_append_right _ (List.mem_append_left _ (List.mem_of_getElem? (i := 60) rfl))) rfl
set_option maxRecDepth 20000 in
theorem kw123 : Cond.fieldLink "MeasureBook$Reckoner" 117 "MeasureBook$Book" "code" "LMeasureBook$Code;" ∈ xW := xW_of (List.mem_append_right _ (List.mem_append_left _ (List.mem_of_getElem? (i := 61) rfl))) rfl
set_option maxRecDepth 20000 in
theorem kw124 : Cond.fieldLink "MeasureBook" 105 "MeasureBook$Book" "code" "LMeasureBook$Code;" ∈ xW := xW_of (List.mem_append_right _ (List.mem_append_left _ (List.mem_of_getElem? (i := 62) rfl))) rfl
set_option maxRecDepth 20000 in
theorem kw125 : Cond.fieldLink "MeasureBook$Book" 22 "MeasureBook$Book" "sorts" "[I" ∈ xW := xW_of (List.mem_append_right _ (List.mem_append_left _ (List.mem_of_getElem? (i := 63) rfl))) rfl
set_option maxRecDepth 20000 in
theorem kw126 : Cond.fieldLink "MeasureBook$Ledger" 31 "MeasureBook$Book" "sorts" "[I" ∈ xW := xW_of (List.mem_append_right _ (List.mem_append_left _ (List.mem_of_getElem? (i := 64) rfl))) rfl
set_option maxRecDepth 20000 in
theorem kw127 : Cond.fieldLink "MeasureBook" 191 "MeasureBook$Book" "sorts" "[I" ∈ xW := xW_of (List.mem_append_right _ (List.mem_append_left _ (List.mem_of_getElem? (i := 65) rfl))) rfl
set_option maxRecDepth 20000 in
theorem kw128 : Cond.fieldLink "MeasureBook$Book" 26 "MeasureBook$Book" "namePlaces" "[I" ∈ xW := xW_of (List.mem_append_right _ (List.mem_append_left _ (List.mem_of_getElem? (i := 66) rfl))) rfl
set_option maxRecDepth 20000 in
theorem kw129 : Cond.fieldLink "MeasureBook" 206 "MeasureBook$Book" "namePlaces" "[I" ∈ xW := xW_of (List.mem_append_right _ (List.mem_append_left _ (List.mem_of_getElem? (i := 67) rfl))) rfl
set_option maxRecDepth 20000 in
theorem kw130 : Cond.fieldLink "MeasureBook$Book" 29 "MeasureBook$Book" "nameLengths" "[I" ∈ xW := xW_of (List.mem_append_right _ (List.mem_append_left _ (List.mem_of_getElem? (i := 68) rfl))) rfl
set_option maxRecDepth 20000 in
theorem kw131 : Cond.fieldLink "MeasureBook" 203 "MeasureBook$Book" "nameLengths" "[I" ∈ xW := xW_of (List.mem_append_right _ (List.mem_append_left _ (List.mem_of_getElem? (i := 69) rfl))) rfl
set_option maxRecDepth 20000 in
theorem kw132 : Cond.fieldLink "MeasureBook$Book" 32 "MeasureBook$Book" "baseNumbers" "[I" ∈ xW := xW_of (List.mem_append_right _ (List.mem_append_left _ (List.mem_of_getElem? (i := 70) rfl))) rfl
set_option maxRecDepth 20000 in
theorem kw133 : Cond.fieldLink "MeasureBook$Ledger" 34 "MeasureBook$Book" "baseNumbers" "[I" ∈ xW := xW_of (List.mem_append_right _ (List.mem_append_left _ (List.mem_of_getElem? (i := 71) rfl))) rfl
set_option maxRecDepth 20000 in
theorem kw134 : Cond.fieldLink "MeasureBook$Book" 35 "MeasureBook$Book" "codeStarts" "[I" ∈ xW := xW_of (List.mem_append_right _ (List.mem_append_left _ (List.mem_of_getElem? (i := 72) rfl))) rfl
set_option maxRecDepth 20000 in
theorem kw135 : Cond.fieldLink "MeasureBook$Reckoner" 97 "MeasureBook$Book" "codeStarts" "[I" ∈ xW := xW_of (List.mem_append_right _ (List.mem_append_left _ (List.mem_of_getElem? (i := 73) rfl))) rfl
set_option maxRecDepth 20000 in
theorem kw136 : Cond.fieldLink "MeasureBook$Book" 38 "MeasureBook$Book" "codeEnds" "[I" ∈ xW := xW_of (List.mem_append_right _ (List.mem_append_left _ (List.mem_of_getElem? (i := 74) rfl))) rfl
set_option maxRecDepth 20000 in
theorem kw137 : Cond.fieldLink "MeasureBook$Reckoner" 73 "MeasureBook$Book" "codeEnds" "[I" ∈ xW := xW_of (List.mem_append_right _ (List.mem_append_left _ (List.mem_of_getElem? (i := 75) rfl))) rfl
set_option maxRecDepth 20000 in
theorem kw138 : Cond.fieldLink "MeasureBook$Book" 41 "MeasureBook$Book" "textEnds" "[I" ∈ xW := xW_of (List.mem_append_right _ (List.mem_append_left _ (List.mem_of_getElem? (i := 76) rfl))) rfl
set_option maxRecDepth 20000 in
theorem kw139 : Cond.fieldLink "MeasureBook$Ledger" 25 "MeasureBook$Book" "count" "I" ∈ xW := xW_of (List.mem_append_right _ (List.mem_append_left _ (List.mem_of_getElem? (i := 77) rfl))) rfl
set_option maxRecDepth 20000 in
theorem kw140 : Cond.fieldLink "MeasureBook$Book" 51 "MeasureBook$Book" "count" "I" ∈ xW := xW_of (List.mem_append_right _ (List.mem_append_left _ (List.mem_of_getElem? (i := 78) rfl))) rfl
set_option maxRecDepth 20000 in
theorem kw141 : Cond.fieldLink "MeasureBook$Reckoner" 60 "MeasureBook$Book" "count" "I" ∈ xW := xW_of (List.mem_append_right _ (List.mem_append_left _ (List.mem_of_getElem? (i := 79) rfl))) rfl
set_option maxRecDepth 20000 in
theorem kw142 : Cond.fieldLink "MeasureBook" 77 "MeasureBook$Book" "count" "I" ∈ xW := xW_of (List.mem_append_right _ (List.mem_append_left _ (List.mem_of_getElem? (i := 80) rfl))) rfl
set_option maxRecDepth 20000 in
theorem kw143 : Cond.fieldLink "MeasureBook" 96 "MeasureBook$Book" "bases" "I" ∈ xW := xW_of (List.mem_append_right _ (List.mem_append_left _ (List.mem_of_getElem? (i := 81) rfl))) rfl
set_option maxRecDepth 20000 in
theorem kw144 : Cond.fieldLink "MeasureBook$Book" 67 "MeasureBook$Book" "bases" "I" ∈ xW := xW_of (List.mem_append_right _ (List.mem_append_left _ (List.mem_of_getElem? (i := 82) rfl))) rfl
set_option maxRecDepth 20000 in
theorem kw145 : Cond.fieldLink "MeasureBook$Book" 44 "MeasureBook$Book" "foundPrefix" "I" ∈ xW := xW_of (List.mem_append_right _ (List.mem_append_left _ (List.mem_of_getElem? (i := 83) rfl))) rfl
set_option maxRecDepth 20000 in
theorem kw146 : Cond.fieldLink "MeasureBook$Reckoner" 144 "MeasureBook$Book" "foundPrefix" "I" ∈ xW := xW_of (List.mem_append_right _ (List.mem_append_left _ (List.mem_of_getElem? (i := 84) rfl))) rfl
set_option maxRecDepth 20000 in
theorem kw147 : Cond.fieldLink "MeasureBook$Book" 48 "MeasureBook$Book" "foundThing" "I" ∈ xW := xW_of (List.mem_append_right _ (List.mem_append_left _ (List.mem_of_getElem? (i := 85) rfl))) rfl
set_option maxRecDepth 20000 in
theorem kw148 : Cond.fieldLink "MeasureBook$Reckoner" 147 "MeasureBook$Book" "foundThing" "I" ∈ xW := xW_of (List.mem_append_right _ (List.mem_append_left _ (List.mem_of_getElem? (i := 86) rfl))) rfl
set_option maxRecDepth 20000 in
theorem kw176 : Cond.classLink "MeasureBook" 20 "MeasureBook$Parser" ∈ xW := xW_of (List.mem_append_right _ (List.mem_append_left _ (List.mem_of_getElem? (i := 114) rfl))) rfl
set_option maxRecDepth 20000 in
theorem kw177 : Cond.instantiable "MeasureBook$Parser" 5 ∈ xW := xW_of (List.mem_append_right _ (List.mem_append_left _ (List.mem_of_getElem? (i := 115) rfl))) rfl
set_option maxRecDepth 20000 in
theorem kw179 : Cond.instanceMethod yX6_init ∈ xW := xW_of (List.mem_append_right _ (List.mem_append_left _ (List.mem_of_getElem? (i := 117) rfl))) rfl
set_option maxRecDepth 20000 in
theorem kw180 : Cond.code yX6_init cX6_init 1 none ∈ xW := xW_of (List.mem_append_right _ (List.mem_append_left _ (List.mem_of_getElem? (i := 118) rfl))) rfl
set_option maxRecDepth 20000 in
theorem kw181 : Cond.methodLink "MeasureBook$Parser" 3 objectInit ∈ xW := xW_of (List.mem_append_right _ (List.mem_append_left _ (List.mem_of_getElem? (i := 119) rfl))) rfl
set_option maxRecDepth 20000 in
theorem kw182 : Cond.classLink "MeasureBook$Parser" 9 "MeasureBook$Tokens" ∈ xW := xW_of (List.mem_append_right _ (List.mem_append_left _ (List.mem_of_getElem? (i := 120) rfl))) rfl
set_option maxRecDepth 20000 in
theorem kw183 : Cond.instantiable "MeasureBook$Tokens" 6 ∈ xW := xW_of (List.mem_append_right _ (List.mem_append_left _ (List.mem_of_getElem? (i := 121) rfl))) rfl
set_option maxRecDepth 20000 in
theorem kw185 : Cond.instanceMethod yX8_init ∈ xW := xW_of (List.mem_append_right _ (List.mem_append_left _ (List.mem_of_getElem? (i := 123) rfl))) rfl
set_option maxRecDepth 20000 in
theorem kw186 : Cond.code yX8_init cX8_init 1 none ∈ xW := xW_of (List.mem_append_right _ (List.mem_append_left _ (List.mem_of_getElem? (i := 124) rfl))) rfl
set_option maxRecDepth 20000 in
theorem kw187 : Cond.methodLink "MeasureBook$Tokens" 3 objectInit ∈ xW := xW_of (List.mem_append_right _ (List.mem_append_left _ (List.mem_of_getElem? (i := 125) rfl))) rfl
set_option maxRecDepth 20000 in
theorem kw188 : Cond.fieldLink "MeasureBook$Tokens" 9 "MeasureBook$Tokens" "text" "[B" ∈ xW := xW_of (List.mem_append_right _ (List.mem_append_left _ (List.mem_of_getElem? (i := 126) rfl))) rfl
set_option maxRecDepth 20000 in
theorem kw189 : Cond.fieldLink "MeasureBook$Tokens" 24 "MeasureBook$Tokens" "end" "I" ∈ xW := xW_of (List.mem_append_right _ (List.mem_append_left _ (List.mem_of_getElem? (i := 127) rfl))) rfl
set_option maxRecDepth 20000 in
theorem kw190 : Cond.fieldLink "MeasureBook$Tokens" 28 "MeasureBook$Tokens" "at" "I" ∈ xW := xW_of (List.mem_append_right _ (List.mem_append_left _ (List.mem_of_getElem? (i := 128) rfl))) rfl
set_option maxRecDepth 20000 in
theorem kw191 : Cond.fieldLink "MeasureBook$Parser" 79 "MeasureBook$Tokens" "at" "I" ∈ xW := xW_of (List.mem_append_right _ (List.mem_append_left _ (List.mem_of_getElem? (i := 129) rfl))) rfl
set_option maxRecDepth 20000 in
theorem kw192 : Cond.fieldLink "MeasureBook" 235 "MeasureBook$Tokens" "at" "I" ∈ xW := xW_of (List.mem_append_right _ (List.mem_append_left _ (List.mem_of_getElem? (i := 130) rfl))) rfl
set_option maxRecDepth 20000 in
theorem kw193 : Cond.fieldLink "MeasureBook$Parser" 35 "MeasureBook$Tokens" "kind" "I" ∈ xW := xW_of (List.mem_append_right _ (List.mem_append_left _ (List.mem_of_getElem? (i := 131) rfl))) rfl
set_option maxRecDepth 20000 in
theorem kw194 : Cond.fieldLink "MeasureBook$Tokens" 45 "MeasureBook$Tokens" "kind" "I" ∈ xW := xW_of (List.mem_append_right _ (List.mem_append_left _ (List.mem_of_getElem? (i := 132) rfl))) rfl
set_option maxRecDepth 20000 in
theorem kw195 : Cond.fieldLink "MeasureBook" 121 "MeasureBook$Tokens" "kind" "I" ∈ xW := xW_of (List.mem_append_right _ (List.mem_append_left _ (List.mem_of_getElem? (i := 133) rfl))) rfl
set_option maxRecDepth 20000 in
theorem kw196 : Cond.fieldLink "MeasureBook$Tokens" 38 "MeasureBook$Tokens" "start" "I" ∈ xW := xW_of (List.mem_append_right _ (List.mem_append_left _ (List.mem_of_getElem? (i := 134) rfl))) rfl
set_option maxRecDepth 20000 in
theorem kw197 : Cond.fieldLink "MeasureBook$Parser" 76 "MeasureBook$Tokens" "start" "I" ∈ xW := xW_of (List.mem_append_right _ (List.mem_append_left _ (List.mem_of_getElem? (i := 135) rfl))) rfl
set_option maxRecDepth 20000 in
theorem kw198 : Cond.fieldLink "MeasureBook" 126 "MeasureBook$Tokens" "start" "I" ∈ xW := xW_of (List.mem_append_right _ (List.mem_append_left _ (List.mem_of_getElem? (i := 136) rfl))) rfl
set_option maxRecDepth 20000 in
theorem kw199 : Cond.fieldLink "MeasureBook$Tokens" 67 "MeasureBook$Tokens" "digitsAlone" "Z" ∈ xW := xW_of (List.mem_append_right _ (List.mem_append_left _ (List.mem_of_getElem? (i := 137) rfl))) rfl
set_option maxRecDepth 20000 in
theorem kw200 : Cond.fieldLink "MeasureBook$Parser" 88 "MeasureBook$Tokens" "digitsAlone" "Z" ∈ xW := xW_of (List.mem_append_right _ (List.mem_append_left _ (List.mem_of_getElem? (i := 138) rfl))) rfl
set_option maxRecDepth 20000 in
theorem kw214 : Cond.fieldLink "MeasureBook$Parser" 12 "MeasureBook$Parser" "in" "LMeasureBook$Tokens;" ∈ xW := xW_of (List.mem_append_right _ (List.mem_append_left _ (List.mem_of_getElem? (i := 152) rfl))) rfl
set_option maxRecDepth 20000 in
theorem kw215 : Cond.fieldLink "MeasureBook" 117 "MeasureBook$Parser" "in" "LMeasureBook$Tokens;" ∈ xW := xW_of (List.mem_append_right _ (List.mem_append_left _ (List.mem_of_getElem? (i := 153) rfl))) rfl
set_option maxRecDepth 20000 in
theorem kw216 : Cond.fieldLink "MeasureBook$Parser" 18 "MeasureBook$Parser" "heldSteps" "[I" ∈ xW := xW_of (List.mem_append_right _ (List.mem_append_left _ (List.mem_of_getElem? (i := 154) rfl))) rfl
set_option maxRecDepth 20000 in
theorem kw217 : Cond.fieldLink "MeasureBook$Parser" 22 "MeasureBook$Parser" "heldPlaces" "[I" ∈ xW := xW_of (List.mem_append_right _ (List.mem_append_left _ (List.mem_of_getElem? (i := 155) rfl))) rfl
set_option maxRecDepth 20000 in
theorem kw218 : Cond.fieldLink "MeasureBook$Parser" 25 "MeasureBook$Parser" "held" "I" ∈ xW := xW_of (List.mem_append_right _ (List.mem_append_left _ (List.mem_of_getElem? (i := 156) rfl))) rfl
set_option maxRecDepth 20000 in
theorem kw219 : Cond.fieldLink "MeasureBook$Parser" 29 "MeasureBook$Parser" "depth" "I" ∈ xW := xW_of (List.mem_append_right _ (List.mem_append_left _ (List.mem_of_getElem? (i := 157) rfl))) rfl
set_option maxRecDepth 20000 in
theorem kw231 : Cond.classLink "MeasureBook" 27 "MeasureBook$Decimals" ∈ xW := xW_of (List.mem_append_right _ (List.mem_append_left _ (List.mem_of_getElem? (i := 169) rfl))) rfl
set_option maxRecDepth 20000 in
theorem kw232 : Cond.instantiable "MeasureBook$Decimals" 4 ∈ xW := xW_of (List.mem_append_right _ (List.mem_append_left _ (List.mem_of_getElem? (i := 170) rfl))) rfl
set_option maxRecDepth 20000 in
theorem kw234 : Cond.instanceMethod yX3_init ∈ xW := xW_of (List.mem_append_right _ (List.mem_append_left _ (List.mem_of_getElem? (i := 172) rfl))) rfl
set_option maxRecDepth 20000 in
theorem kw235 : Cond.code yX3_init cX3_init 1 none ∈ xW := xW_of (List.mem_append_right _ (List.mem_append_left _ (List.mem_of_getElem? (i := 173) rfl))) rfl
set_option maxRecDepth 20000 in
theorem kw236 : Cond.methodLink "MeasureBook$Decimals" 3 objectInit ∈ xW := xW_of (List.mem_append_right _ (List.mem_append_left _ (List.mem_of_getElem? (i := 174) rfl))) rfl
set_option maxRecDepth 20000 in
theorem kw237 : Cond.classLink "MeasureBook$Decimals" 9 "MeasureBook$Natural" ∈ xW := xW_of (List.mem_append_right _ (List.mem_append_left _ (List.mem_of_getElem? (i := 175) rfl))) rfl
set_option maxRecDepth 20000 in
theorem kw238 : Cond.instantiable "MeasureBook$Natural" 2 ∈ xW := xW_of (List.mem_append_right _ (List.mem_append_left _ (List.mem_of_getElem? (i := 176) rfl))) rfl
set_option maxRecDepth 20000 in
theorem kw239 : Cond.methodLink "MeasureBook$Decimals" 11 yX5_init ∈ xW := xW_of (List.mem_append_right _ (List.mem_append_left _ (List.mem_of_getElem? (i := 177) rfl))) rfl
set_option maxRecDepth 20000 in
theorem kw240 : Cond.instanceMethod yX5_init ∈ xW := xW_of (List.mem_append_right _ (List.mem_append_left _ (List.mem_of_getElem? (i := 178) rfl))) rfl
set_option maxRecDepth 20000 in
theorem kw241 : Cond.code yX5_init cX5_init 2 none ∈ xW := xW_of (List.mem_append_right _ (List.mem_append_left _ (List.mem_of_getElem? (i := 179) rfl))) rfl
set_option maxRecDepth 20000 in
theorem kw242 : Cond.methodLink "MeasureBook$Natural" 3 objectInit ∈ xW := xW_of (List.mem_append_right _ (List.mem_append_left _ (List.mem_of_getElem? (i := 180) rfl))) rfl
set_option maxRecDepth 20000 in
theorem kw243 : Cond.fieldLink "MeasureBook$Natural" 9 "MeasureBook$Natural" "limbs" "[I" ∈ xW := xW_of (List.mem_append_right _ (List.mem_append_left _ (List.mem_of_getElem? (i := 181) rfl))) rfl
set_option maxRecDepth 20000 in
theorem kw244 : Cond.fieldLink "MeasureBook$Value" 27 "MeasureBook$Natural" "limbs" "[I" ∈ xW := xW_of (List.mem_append_right _ (List.mem_append_left _ (List.mem_of_getElem? (i := 182) rfl))) rfl
set_option maxRecDepth 20000 in
theorem kw245 : Cond.fieldLink "MeasureBook$Decimals" 72 "MeasureBook$Natural" "limbs" "[I" ∈ xW := xW_of (List.mem_append_right _ (List.mem_append_left _ (List.mem_of_getElem? (i := 183) rfl))) rfl
set_option maxRecDepth 20000 in
theorem kw246 : Cond.fieldLink "MeasureBook$Bench" 148 "MeasureBook$Natural" "limbs" "[I" ∈ xW := xW_of (List.mem_append_right _ (List.mem_append_left _ (List.mem_of_getElem? (i := 184) rfl))) rfl
set_option maxRecDepth 20000 in
theorem kw247 : Cond.fieldLink "MeasureBook$Value" 30 "MeasureBook$Natural" "size" "I" ∈ xW := xW_of (List.mem_append_right _ (List.mem_append_left _ (List.mem_of_getElem? (i := 185) rfl))) rfl
set_option maxRecDepth 20000 in
theorem kw248 : Cond.fieldLink "MeasureBook$Natural" 16 "MeasureBook$Natural" "size" "I" ∈ xW := xW_of (List.mem_append_right _ (List.mem_append_left _ (List.mem_of_getElem? (i := 186) rfl))) rfl
set_option maxRecDepth 20000 in
theorem kw249 : Cond.fieldLink "MeasureBook$Decimals" 69 "MeasureBook$Natural" "size" "I" ∈ xW := xW_of (List.mem_append_right _ (List.mem_append_left _ (List.mem_of_getElem? (i := 187) rfl))) rfl
set_option maxRecDepth 20000 in
theorem kw250 : Cond.fieldLink "MeasureBook$Bench" 135 "MeasureBook$Natural" "size" "I" ∈ xW := xW_of (List.mem_append_right _ (List.mem_append_left _ (List.mem_of_getElem? (i := 188) rfl))) rfl
set_option maxRecDepth 20000 in
theorem kw256 : Cond.fieldLink "MeasureBook$Decimals" 14 "MeasureBook$Decimals" "work" "LMeasureBook$Natural;" ∈ xW := xW_of (List.mem_append_right _ (List.mem_append_left _ (List.mem_of_getElem? (i := 194) rfl))) rfl
set_option maxRecDepth 20000 in
theorem kw257 : Cond.fieldLink "MeasureBook" 165 "MeasureBook$Decimals" "work" "LMeasureBook$Natural;" ∈ xW := xW_of (List.mem_append_right _ (List.mem_append_left _ (List.mem_of_getElem? (i := 195) rfl))) rfl
set_option maxRecDepth 20000 in
theorem kw258 : Cond.fieldLink "MeasureBook$Decimals" 20 "MeasureBook$Decimals" "tried" "LMeasureBook$Natural;" ∈ xW := xW_of (List.mem_append_right _ (List.mem_append_left _ (List.mem_of_getElem? (i := 196) rfl))) rfl
set_option maxRecDepth 20000 in
theorem kw259 : Cond.fieldLink "MeasureBook$Decimals" 23 "MeasureBook$Decimals" "row" "[I" ∈ xW := xW_of (List.mem_append_right _ (List.mem_append_left _ (List.mem_of_getElem? (i := 197) rfl))) rfl
set_option maxRecDepth 20000 in
theorem kw260 : Cond.fieldLink "MeasureBook" 154 "MeasureBook$Decimals" "row" "[I" ∈ xW := xW_of (List.mem_append_right _ (List.mem_append_left _ (List.mem_of_getElem? (i := 198) rfl))) rfl
set_option maxRecDepth 20000 in
theorem kw261 : Cond.fieldLink "MeasureBook$Decimals" 31 "MeasureBook$Decimals" "count" "I" ∈ xW := xW_of (List.mem_append_right _ (List.mem_append_left _ (List.mem_of_getElem? (i := 199) rfl))) rfl
set_option maxRecDepth 20000 in
theorem kw262 : Cond.fieldLink "MeasureBook" 153 "MeasureBook$Decimals" "count" "I" ∈ xW := xW_of (List.mem_append_right _ (List.mem_append_left _ (List.mem_of_getElem? (i := 200) rfl))) rfl
set_option maxRecDepth 20000 in
theorem kw272 : Cond.classLink "MeasureBook" 34 "MeasureBook$Value" ∈ xW := xW_of (List.mem_append_right _ (List.mem_append_left _ (List.mem_of_getElem? (i := 210) rfl))) rfl
set_option maxRecDepth 20000 in
theorem kw273 : Cond.instantiable "MeasureBook$Value" 4 ∈ xW := xW_of (List.mem_append_right _ (List.mem_append_left _ (List.mem_of_getElem? (i := 211) rfl))) rfl
set_option maxRecDepth 20000 in
theorem kw274 : Cond.methodLink "MeasureBook" 36 yX9_init ∈ xW := xW_of (List.mem_append_right _ (List.mem_append_left _ (List.mem_of_getElem? (i := 212) rfl))) rfl
set_option maxRecDepth 20000 in
theorem kw275 : Cond.instanceMethod yX9_init ∈ xW := xW_of (List.mem_append_right _ (List.mem_append_left _ (List.mem_of_getElem? (i := 213) rfl))) rfl
set_option maxRecDepth 20000 in
theorem kw276 : Cond.code yX9_init cX9_init 1 none ∈ xW := xW_of (List.mem_append_right _ (List.mem_append_left _ (List.mem_of_getElem? (i := 214) rfl))) rfl
set_option maxRecDepth 20000 in
theorem kw277 : Cond.methodLink "MeasureBook$Value" 3 objectInit ∈ xW := xW_of (List.mem_append_right _ (List.mem_append_left _ (List.mem_of_getElem? (i := 215) rfl))) rfl
set_option maxRecDepth 20000 in
theorem kw278 : Cond.classLink "MeasureBook$Value" 9 "MeasureBook$Natural" ∈ xW := xW_of (List.mem_append_right _ (List.mem_append_left _ (List.mem_of_getElem? (i := 216) rfl))) rfl
set_option maxRecDepth 20000 in
theorem kw279 : Cond.methodLink "MeasureBook$Value" 11 yX5_init ∈ xW := xW_of (List.mem_append_right _ (List.mem_append_left _ (List.mem_of_getElem? (i := 217) rfl))) rfl
set_option maxRecDepth 20000 in
theorem kw280 : Cond.fieldLink "MeasureBook$Bench" 43 "MeasureBook$Value" "sign" "I" ∈ xW := xW_of (List.mem_append_right _ (List.mem_append_left _ (List.mem_of_getElem? (i := 218) rfl))) rfl
set_option maxRecDepth 20000 in
theorem kw281 : Cond.fieldLink "MeasureBook$Value" 34 "MeasureBook$Value" "sign" "I" ∈ xW := xW_of (List.mem_append_right _ (List.mem_append_left _ (List.mem_of_getElem? (i := 219) rfl))) rfl
set_option maxRecDepth 20000 in
theorem kw282 : Cond.fieldLink "MeasureBook" 138 "MeasureBook$Value" "sign" "I" ∈ xW := xW_of (List.mem_append_right _ (List.mem_append_left _ (List.mem_of_getElem? (i := 220) rfl))) rfl
set_option maxRecDepth 20000 in
theorem kw283 : Cond.fieldLink "MeasureBook$Value" 14 "MeasureBook$Value" "top" "LMeasureBook$Natural;" ∈ xW := xW_of (List.mem_append_right _ (List.mem_append_left _ (List.mem_of_getElem? (i := 221) rfl))) rfl
set_option maxRecDepth 20000 in
theorem kw284 : Cond.fieldLink "MeasureBook$Decimals" 42 "MeasureBook$Value" "top" "LMeasureBook$Natural;" ∈ xW := xW_of (List.mem_append_right _ (List.mem_append_left _ (List.mem_of_getElem? (i := 222) rfl))) rfl
set_option maxRecDepth 20000 in
theorem kw285 : Cond.fieldLink "MeasureBook$Bench" 74 "MeasureBook$Value" "top" "LMeasureBook$Natural;" ∈ xW := xW_of (List.mem_append_right _ (List.mem_append_left _ (List.mem_of_getElem? (i := 223) rfl))) rfl
set_option maxRecDepth 20000 in
theorem kw286 : Cond.fieldLink "MeasureBook$Value" 20 "MeasureBook$Value" "bottom" "LMeasureBook$Natural;" ∈ xW := xW_of (List.mem_append_right _ (List.mem_append_left _ (List.mem_of_getElem? (i := 224) rfl))) rfl
set_option maxRecDepth 20000 in
theorem kw287 : Cond.fieldLink "MeasureBook$Decimals" 47 "MeasureBook$Value" "bottom" "LMeasureBook$Natural;" ∈ xW := xW_of (List.mem_append_right _ (List.mem_append_left _ (List.mem_of_getElem? (i := 225) rfl))) rfl
set_option maxRecDepth 20000 in
theorem kw288 : Cond.fieldLink "MeasureBook$Bench" 75 "MeasureBook$Value" "bottom" "LMeasureBook$Natural;" ∈ xW := xW_of (List.mem_append_right _ (List.mem_append_left _ (List.mem_of_getElem? (i := 226) rfl))) rfl
set_option maxRecDepth 20000 in
theorem kw289 : Cond.fieldLink "MeasureBook" 169 "MeasureBook$Value" "bottom" "LMeasureBook$Natural;" ∈ xW := xW_of (List.mem_append_right _ (List.mem_append_left _ (List.mem_of_getElem? (i := 227) rfl))) rfl
set_option maxRecDepth 20000 in
theorem kw290 : Cond.fieldLink "MeasureBook$Value" 23 "MeasureBook$Value" "powers" "[I" ∈ xW := xW_of (List.mem_append_right _ (List.mem_append_left _ (List.mem_of_getElem? (i := 228) rfl))) rfl
set_option maxRecDepth 20000 in
theorem kw291 : Cond.fieldLink "MeasureBook" 141 "MeasureBook$Value" "powers" "[I" ∈ xW := xW_of (List.mem_append_right _ (List.mem_append_left _ (List.mem_of_getElem? (i := 229) rfl))) rfl
set_option maxRecDepth 20000 in
theorem kw301 : Cond.methodLink "MeasureBook" 41 yJ9_min_7cf53 ∈ xW := xW_of (List.mem_append_right _ (List.mem_append_left _ (List.mem_of_getElem? (i := 239) rfl))) rfl
set_option maxRecDepth 20000 in
theorem kw302 : Cond.static yJ9_min_7cf53 ∈ xW := xW_of (List.mem_append_right _ (List.mem_append_right _ (List.mem_append_left _ (List.mem_of_getElem? (i := 0) rfl)))) rfl
set_option maxRecDepth 20000 in
theorem kw303 : Cond.code yJ9_min_7cf53 cJ9_min_7cf53 2 (some .int) ∈ xW := xW_of (List.mem_append_right _ (List.mem_append_right _ (List.mem_append_left _ (List.mem_of_getElem? (i := 1) rfl)))) rfl
set_option maxRecDepth 20000 in
theorem kw304 : Cond.methodLink "MeasureBook" 47 yJ9_max_7cf53 ∈ xW := xW_of (List.mem_append_right _ (List.mem_append_right _ (List.mem_append_left _ (List.mem_of_getElem? (i := 2) rfl)))) rfl
set_option maxRecDepth 20000 in
theorem kw305 : Cond.static yJ9_max_7cf53 ∈ xW := xW_of (List.mem_append_right _ (List.mem_append_right _ (List.mem_append_left _ (List.mem_of_getElem? (i := 3) rfl)))) rfl
set_option maxRecDepth 20000 in
theorem kw306 : Cond.code yJ9_max_7cf53 cJ9_max_7cf53 2 (some .int) ∈ xW := xW_of (List.mem_append_right _ (List.mem_append_right _ (List.mem_append_left _ (List.mem_of_getElem? (i := 4) rfl)))) rfl
set_option maxRecDepth 20000 in
theorem kw307 : Cond.classLink "MeasureBook" 54 "MeasureBook$Reckoner" ∈ xW := xW_of (List.mem_append_right _ (List.mem_append_right _ (List.mem_append_left _ (List.mem_of_getElem? (i := 5) rfl)))) rfl
set_option maxRecDepth 20000 in
theorem kw308 : Cond.instantiable "MeasureBook$Reckoner" 12 ∈ xW := xW_of (List.mem_append_right _ (List.mem_append_right _ (List.mem_append_left _ (List.mem_of_getElem? (i := 6) rfl)))) rfl
set_option maxRecDepth 20000 in
theorem kw309 : Cond.methodLink "MeasureBook" 56 yX7_init ∈ xW := xW_of (List.mem_append_right _ (List.mem_append_right _ (List.mem_append_left _ (List.mem_of_getElem? (i := 7) rfl)))) rfl
set_option maxRecDepth 20000 in
theorem kw310 : Cond.instanceMethod yX7_init ∈ xW := xW_of (List.mem_append_right _ (List.mem_append_right _ (List.mem_append_left _ (List.mem_of_getElem? (i := 8) rfl)))) rfl
set_option maxRecDepth 20000 in
theorem kw311 : Cond.code yX7_init cX7_init 2 none ∈ xW := xW_of (List.mem_append_right _ (List.mem_append_right _ (List.mem_append_left _ (List.mem_of_getElem? (i := 9) rfl)))) rfl
set_option maxRecDepth 20000 in
theorem kw312 : Cond.methodLink "MeasureBook$Reckoner" 3 objectInit ∈ xW := xW_of (List.mem_append_right _ (List.mem_append_right _ (List.mem_append_left _ (List.mem_of_getElem? (i := 10) rfl)))) rfl
set_option maxRecDepth 20000 in
theorem kw313 : Cond.classLink "MeasureBook$Reckoner" 9 "MeasureBook$Ledger" ∈ xW := xW_of (List.mem_append_right _ (List.mem_append_right _ (List.mem_append_left _ (List.mem_of_getElem? (i := 11) rfl)))) rfl
set_option maxRecDepth 20000 in
theorem kw314 : Cond.instantiable "MeasureBook$Ledger" 3 ∈ xW := xW_of (List.mem_append_right _ (List.mem_append_right _ (List.mem_append_left _ (List.mem_of_getElem? (i := 12) rfl)))) rfl
set_option maxRecDepth 20000 in
theorem kw315 : Cond.methodLink "MeasureBook$Reckoner" 11 yX4_init ∈ xW := xW_of (List.mem_append_right _ (List.mem_append_right _ (List.mem_append_left _ (List.mem_of_getElem? (i := 13) rfl)))) rfl
set_option maxRecDepth 20000 in
theorem kw316 : Cond.instanceMethod yX4_init ∈ xW := xW_of (List.mem_append_right _ (List.mem_append_right _ (List.mem_append_left _ (List.mem_of_getElem? (i := 14) rfl)))) rfl
set_option maxRecDepth 20000 in
theorem kw317 : Cond.code yX4_init cX4_init 2 none ∈ xW := xW_of (List.mem_append_right _ (List.mem_append_right _ (List.mem_append_left _ (List.mem_of_getElem? (i := 15) rfl)))) rfl
set_option maxRecDepth 20000 in
theorem kw318 : Cond.methodLink "MeasureBook$Ledger" 3 objectInit ∈ xW := xW_of (List.mem_append_right _ (List.mem_append_right _ (List.mem_append_left _ (List.mem_of_getElem? (i := 16) rfl)))) rfl
set_option maxRecDepth 20000 in
theorem kw319 : Cond.classLink "MeasureBook$Ledger" 9 "MeasureBook$Value" ∈ xW := xW_of (List.mem_append_right _ (List.mem_append_right _ (List.mem_append_left _ (List.mem_of_getElem? (i := 17) rfl)))) rfl
set_option maxRecDepth 20000 in
theorem kw321 : Cond.methodLink "MeasureBook$Ledger" 24 yX9_init ∈ xW := xW_of (List.mem_append_right _ (List.mem_append_right _ (List.mem_append_left _ (List.mem_of_getElem? (i := 19) rfl)))) rfl
set_option maxRecDepth 20000 in
theorem kw322 : Cond.fieldLink "MeasureBook$Ledger" 11 "MeasureBook$Ledger" "values" "[LMeasureBook$Value;" ∈ xW := xW_of (List.mem_append_right _ (List.mem_append_right _ (List.mem_append_left _ (List.mem_of_getElem? (i := 20) rfl)))) rfl
set_option maxRecDepth 20000 in
theorem kw323 : Cond.fieldLink "MeasureBook$Reckoner" 103 "MeasureBook$Ledger" "values" "[LMeasureBook$Value;" ∈ xW := xW_of (List.mem_append_right _ (List.mem_append_right _ (List.mem_append_left _ (List.mem_of_getElem? (i := 21) rfl)))) rfl
set_option maxRecDepth 20000 in
theorem kw324 : Cond.fieldLink "MeasureBook" 271 "MeasureBook$Ledger" "values" "[LMeasureBook$Value;" ∈ xW := xW_of (List.mem_append_right _ (List.mem_append_right _ (List.mem_append_left _ (List.mem_of_getElem? (i := 22) rfl)))) rfl
set_option maxRecDepth 20000 in
theorem kw325 : Cond.fieldLink "MeasureBook$Ledger" 17 "MeasureBook$Ledger" "faults" "[I" ∈ xW := xW_of (List.mem_append_right _ (List.mem_append_right _ (List.mem_append_left _ (List.mem_of_getElem? (i := 23) rfl)))) rfl
set_option maxRecDepth 20000 in
theorem kw326 : Cond.fieldLink "MeasureBook$Reckoner" 114 "MeasureBook$Ledger" "faults" "[I" ∈ xW := xW_of (List.mem_append_right _ (List.mem_append_right _ (List.mem_append_left _ (List.mem_of_getElem? (i := 24) rfl)))) rfl
set_option maxRecDepth 20000 in
theorem kw327 : Cond.fieldLink "MeasureBook" 198 "MeasureBook$Ledger" "faults" "[I" ∈ xW := xW_of (List.mem_append_right _ (List.mem_append_right _ (List.mem_append_left _ (List.mem_of_getElem? (i := 25) rfl)))) rfl
set_option maxRecDepth 20000 in
theorem kw328 : Cond.fieldLink "MeasureBook$Ledger" 21 "MeasureBook$Ledger" "states" "[I" ∈ xW := xW_of (List.mem_append_right _ (List.mem_append_right _ (List.mem_append_left _ (List.mem_of_getElem? (i := 26) rfl)))) rfl
set_option maxRecDepth 20000 in
theorem kw329 : Cond.fieldLink "MeasureBook$Reckoner" 94 "MeasureBook$Ledger" "states" "[I" ∈ xW := xW_of (List.mem_append_right _ (List.mem_append_right _ (List.mem_append_left _ (List.mem_of_getElem? (i := 27) rfl)))) rfl
set_option maxRecDepth 20000 in
theorem kw337 : Cond.classLink "MeasureBook$Reckoner" 21 "MeasureBook$Value" ∈ xW := xW_of (List.mem_append_right _ (List.mem_append_right _ (List.mem_append_left _ (List.mem_of_getElem? (i := 35) rfl)))) rfl
set_option maxRecDepth 20000 in
theorem kw338 : Cond.classLink "MeasureBook$Reckoner" 37 "MeasureBook$Bench" ∈ xW := xW_of (List.mem_append_right _ (List.mem_append_right _ (List.mem_append_left _ (List.mem_of_getElem? (i := 36) rfl)))) rfl
set_option maxRecDepth 20000 in
theorem kw339 : Cond.instantiable "MeasureBook$Bench" 9 ∈ xW := xW_of (List.mem_append_right _ (List.mem_append_right _ (List.mem_append_left _ (List.mem_of_getElem? (i := 37) rfl)))) rfl
set_option maxRecDepth 20000 in
theorem kw340 : Cond.methodLink "MeasureBook$Reckoner" 39 yX0_init ∈ xW := xW_of (List.mem_append_right _ (List.mem_append_right _ (List.mem_append_left _ (List.mem_of_getElem? (i := 38) rfl)))) rfl
set_option maxRecDepth 20000 in
theorem kw341 : Cond.instanceMethod yX0_init ∈ xW := xW_of (List.mem_append_right _ (List.mem_append_right _ (List.mem_append_left _ (List.mem_of_getElem? (i := 39) rfl)))) rfl
set_option maxRecDepth 20000 in
theorem kw342 : Cond.code yX0_init cX0_init 2 none ∈ xW := xW_of (List.mem_append_right _ (List.mem_append_right _ (List.mem_append_left _ (List.mem_of_getElem? (i := 40) rfl)))) rfl
set_option maxRecDepth 20000 in
theorem kw343 : Cond.methodLink "MeasureBook$Bench" 3 objectInit ∈ xW := xW_of (List.mem_append_right _ (List.mem_append_right _ (List.mem_append_left _ (List.mem_of_getElem? (i := 41) rfl)))) rfl
set_option maxRecDepth 20000 in
theorem kw344 : Cond.classLink "MeasureBook$Bench" 9 "MeasureBook$Natural" ∈ xW := xW_of (List.mem_append_right _ (List.mem_append_right _ (List.mem_append_left _ (List.mem_of_getElem? (i := 42) rfl)))) rfl
set_option maxRecDepth 20000 in
theorem kw345 : Cond.methodLink "MeasureBook$Bench" 11 yX5_init ∈ xW := xW_of (List.mem_append_right _ (List.mem_append_right _ (List.mem_append_left _ (List.mem_of_getElem? (i := 43) rfl)))) rfl
set_option maxRecDepth 20000 in
theorem kw346 : Cond.fieldLink "MeasureBook$Bench" 39 "MeasureBook$Bench" "bits" "I" ∈ xW := xW_of (List.mem_append_right _ (List.mem_append_right _ (List.mem_append_left _ (List.mem_of_getElem? (i := 44) rfl)))) rfl
set_option maxRecDepth 20000 in
theorem kw347 : Cond.fieldLink "MeasureBook$Bench" 14 "MeasureBook$Bench" "top" "LMeasureBook$Natural;" ∈ xW := xW_of (List.mem_append_right _ (List.mem_append_right _ (List.mem_append_left _ (List.mem_of_getElem? (i := 45) rfl)))) rfl
set_option maxRecDepth 20000 in
theorem kw348 : Cond.fieldLink "MeasureBook$Bench" 20 "MeasureBook$Bench" "bottom" "LMeasureBook$Natural;" ∈ xW := xW_of (List.mem_append_right _ (List.mem_append_right _ (List.mem_append_left _ (List.mem_of_getElem? (i := 46) rfl)))) rfl
set_option maxRecDepth 20000 in
theorem kw349 : Cond.fieldLink "MeasureBook$Bench" 83 "MeasureBook$Bench" "sign" "I" ∈ xW := xW_of (List.mem_append_right _ (List.mem_append_right _ (List.mem_append_left _ (List.mem_of_getElem? (i := 47) rfl)))) rfl
set_option maxRecDepth 20000 in
theorem kw350 : Cond.fieldLink "MeasureBook$Bench" 23 "MeasureBook$Bench" "left" "LMeasureBook$Natural;" ∈ xW := xW_of (List.mem_append_right _ (List.mem_append_right _ (List.mem_append_left _ (List.mem_of_getElem? (i := 48) rfl)))) rfl
set_option maxRecDepth 20000 in
theorem kw351 : Cond.fieldLink "MeasureBook$Bench" 26 "MeasureBook$Bench" "right" "LMeasureBook$Natural;" ∈ xW := xW_of (List.mem_append_right _ (List.mem_append_right _ (List.mem_append_left _ (List.mem_of_getElem? (i := 49) rfl)))) rfl
set_option maxRecDepth 20000 in
theorem kw352 : Cond.fieldLink "MeasureBook$Bench" 29 "MeasureBook$Bench" "quotient" "LMeasureBook$Natural;" ∈ xW := xW_of (List.mem_append_right _ (List.mem_append_right _ (List.mem_append_left _ (List.mem_of_getElem? (i := 50) rfl)))) rfl
set_option maxRecDepth 20000 in
theorem kw353 : Cond.fieldLink "MeasureBook$Decimals" 66 "MeasureBook$Bench" "quotient" "LMeasureBook$Natural;" ∈ xW := xW_of (List.mem_append_right _ (List.mem_append_right _ (List.mem_append_left _ (List.mem_of_getElem? (i := 51) rfl)))) rfl
set_option maxRecDepth 20000 in
theorem kw354 : Cond.fieldLink "MeasureBook$Bench" 32 "MeasureBook$Bench" "shiftedNumber" "[I" ∈ xW := xW_of (List.mem_append_right _ (List.mem_append_right _ (List.mem_append_left _ (List.mem_of_getElem? (i := 52) rfl)))) rfl
set_option maxRecDepth 20000 in
theorem kw355 : Cond.fieldLink "MeasureBook$Bench" 36 "MeasureBook$Bench" "shiftedBy" "[I" ∈ xW := xW_of (List.mem_append_right _ (List.mem_append_right _ (List.mem_append_left _ (List.mem_of_getElem? (i := 53) rfl)))) rfl
set_option maxRecDepth 20000 in
theorem kw375 : Cond.fieldLink "MeasureBook$Reckoner" 42 "MeasureBook$Reckoner" "bench" "LMeasureBook$Bench;" ∈ xW := xW_of (List.mem_append_right _ (List.mem_append_right _ (List.mem_append_left _ (List.mem_of_getElem? (i := 73) rfl)))) rfl
set_option maxRecDepth 20000 in
theorem kw376 : Cond.fieldLink "MeasureBook" 157 "MeasureBook$Reckoner" "bench" "LMeasureBook$Bench;" ∈ xW := xW_of (List.mem_append_right _ (List.mem_append_right _ (List.mem_append_left _ (List.mem_of_getElem? (i := 74) rfl)))) rfl
set_option maxRecDepth 20000 in
theorem kw377 : Cond.fieldLink "MeasureBook$Reckoner" 12 "MeasureBook$Reckoner" "ledger" "LMeasureBook$Ledger;" ∈ xW := xW_of (List.mem_append_right _ (List.mem_append_right _ (List.mem_append_left _ (List.mem_of_getElem? (i := 75) rfl)))) rfl
set_option maxRecDepth 20000 in
theorem kw378 : Cond.fieldLink "MeasureBook" 194 "MeasureBook$Reckoner" "ledger" "LMeasureBook$Ledger;" ∈ xW := xW_of (List.mem_append_right _ (List.mem_append_right _ (List.mem_append_left _ (List.mem_of_getElem? (i := 76) rfl)))) rfl
set_option maxRecDepth 20000 in
theorem kw379 : Cond.fieldLink "MeasureBook$Reckoner" 18 "MeasureBook$Reckoner" "spare" "LMeasureBook$Ledger;" ∈ xW := xW_of (List.mem_append_right _ (List.mem_append_right _ (List.mem_append_left _ (List.mem_of_getElem? (i := 77) rfl)))) rfl
set_option maxRecDepth 20000 in
theorem kw380 : Cond.fieldLink "MeasureBook$Reckoner" 23 "MeasureBook$Reckoner" "stack" "[LMeasureBook$Value;" ∈ xW := xW_of (List.mem_append_right _ (List.mem_append_right _ (List.mem_append_left _ (List.mem_of_getElem? (i := 78) rfl)))) rfl
set_option maxRecDepth 20000 in
theorem kw381 : Cond.fieldLink "MeasureBook$Reckoner" 57 "MeasureBook$Reckoner" "held" "I" ∈ xW := xW_of (List.mem_append_right _ (List.mem_append_right _ (List.mem_append_left _ (List.mem_of_getElem? (i := 79) rfl)))) rfl
set_option maxRecDepth 20000 in
theorem kw382 : Cond.fieldLink "MeasureBook" 251 "MeasureBook$Reckoner" "held" "I" ∈ xW := xW_of (List.mem_append_right _ (List.mem_append_right _ (List.mem_append_left _ (List.mem_of_getElem? (i := 80) rfl)))) rfl
set_option maxRecDepth 20000 in
theorem kw383 : Cond.fieldLink "MeasureBook$Reckoner" 27 "MeasureBook$Reckoner" "waiting" "[I" ∈ xW := xW_of (List.mem_append_right _ (List.mem_append_right _ (List.mem_append_left _ (List.mem_of_getElem? (i := 81) rfl)))) rfl
set_option maxRecDepth 20000 in
theorem kw384 : Cond.fieldLink "MeasureBook$Reckoner" 31 "MeasureBook$Reckoner" "goOnAt" "[I" ∈ xW := xW_of (List.mem_append_right _ (List.mem_append_right _ (List.mem_append_left _ (List.mem_of_getElem? (i := 82) rfl)))) rfl
set_option maxRecDepth 20000 in
theorem kw385 : Cond.fieldLink "MeasureBook$Reckoner" 34 "MeasureBook$Reckoner" "heldBelow" "[I" ∈ xW := xW_of (List.mem_append_right _ (List.mem_append_right _ (List.mem_append_left _ (List.mem_of_getElem? (i := 83) rfl)))) rfl
set_option maxRecDepth 20000 in
theorem kw386 : Cond.fieldLink "MeasureBook$Reckoner" 53 "MeasureBook$Reckoner" "waitingCount" "I" ∈ xW := xW_of (List.mem_append_right _ (List.mem_append_right _ (List.mem_append_left _ (List.mem_of_getElem? (i := 84) rfl)))) rfl
set_option maxRecDepth 20000 in
theorem kw387 : Cond.fieldLink "MeasureBook$Reckoner" 83 "MeasureBook$Reckoner" "at" "I" ∈ xW := xW_of (List.mem_append_right _ (List.mem_append_right _ (List.mem_append_left _ (List.mem_of_getElem? (i := 85) rfl)))) rfl
set_option maxRecDepth 20000 in
theorem kw388 : Cond.fieldLink "MeasureBook$Reckoner" 100 "MeasureBook$Reckoner" "found" "I" ∈ xW := xW_of (List.mem_append_right _ (List.mem_append_right _ (List.mem_append_left _ (List.mem_of_getElem? (i := 86) rfl)))) rfl
set_option maxRecDepth 20000 in
theorem kw389 : Cond.fieldLink "MeasureBook" 258 "MeasureBook$Reckoner" "found" "I" ∈ xW := xW_of (List.mem_append_right _ (List.mem_append_right _ (List.mem_append_left _ (List.mem_of_getElem? (i := 87) rfl)))) rfl
set_option maxRecDepth 20000 in
theorem kw390 : Cond.fieldLink "MeasureBook$Reckoner" 137 "MeasureBook$Reckoner" "place" "I" ∈ xW := xW_of (List.mem_append_right _ (List.mem_append_right _ (List.mem_append_left _ (List.mem_of_getElem? (i := 88) rfl)))) rfl
set_option maxRecDepth 20000 in
theorem kw391 : Cond.fieldLink "MeasureBook" 261 "MeasureBook$Reckoner" "place" "I" ∈ xW := xW_of (List.mem_append_right _ (List.mem_append_right _ (List.mem_append_left _ (List.mem_of_getElem? (i := 89) rfl)))) rfl
set_option maxRecDepth 20000 in
theorem kw417 : Cond.fieldLink "MeasureBook" 50 "MeasureBook" "bits" "I" ∈ xW := xW_of (List.mem_append_right _ (List.mem_append_right _ (List.mem_append_left _ (List.mem_of_getElem? (i := 115) rfl)))) rfl
set_option maxRecDepth 20000 in
theorem kw418 : Cond.fieldLink "MeasureBook" 9 "MeasureBook" "tape" "[B" ∈ xW := xW_of (List.mem_append_right _ (List.mem_append_right _ (List.mem_append_left _ (List.mem_of_getElem? (i := 116) rfl)))) rfl
set_option maxRecDepth 20000 in
theorem kw419 : Cond.fieldLink "MeasureBook" 63 "MeasureBook" "tapeSize" "I" ∈ xW := xW_of (List.mem_append_right _ (List.mem_append_right _ (List.mem_append_left _ (List.mem_of_getElem? (i := 117) rfl)))) rfl
set_option maxRecDepth 20000 in
theorem kw420 : Cond.fieldLink "MeasureBook" 16 "MeasureBook" "book" "LMeasureBook$Book;" ∈ xW := xW_of (List.mem_append_right _ (List.mem_append_right _ (List.mem_append_left _ (List.mem_of_getElem? (i := 118) rfl)))) rfl
set_option maxRecDepth 20000 in
theorem kw421 : Cond.fieldLink "MeasureBook" 23 "MeasureBook" "parser" "LMeasureBook$Parser;" ∈ xW := xW_of (List.mem_append_right _ (List.mem_append_right _ (List.mem_append_left _ (List.mem_of_getElem? (i := 119) rfl)))) rfl
set_option maxRecDepth 20000 in
theorem kw422 : Cond.fieldLink "MeasureBook" 59 "MeasureBook" "reckoner" "LMeasureBook$Reckoner;" ∈ xW := xW_of (List.mem_append_right _ (List.mem_append_right _ (List.mem_append_left _ (List.mem_of_getElem? (i := 120) rfl)))) rfl
set_option maxRecDepth 20000 in
theorem kw423 : Cond.fieldLink "MeasureBook" 30 "MeasureBook" "decimals" "LMeasureBook$Decimals;" ∈ xW := xW_of (List.mem_append_right _ (List.mem_append_right _ (List.mem_append_left _ (List.mem_of_getElem? (i := 121) rfl)))) rfl
set_option maxRecDepth 20000 in
theorem kw424 : Cond.fieldLink "MeasureBook" 37 "MeasureBook" "result" "LMeasureBook$Value;" ∈ xW := xW_of (List.mem_append_right _ (List.mem_append_right _ (List.mem_append_left _ (List.mem_of_getElem? (i := 122) rfl)))) rfl
set_option maxRecDepth 20000 in
theorem kw425 : Cond.fieldLink "MeasureBook" 83 "MeasureBook" "latestFault" "I" ∈ xW := xW_of (List.mem_append_right _ (List.mem_append_right _ (List.mem_append_left _ (List.mem_of_getElem? (i := 123) rfl)))) rfl
set_option maxRecDepth 20000 in
theorem kw426 : Cond.fieldLink "MeasureBook" 90 "MeasureBook" "faultPlace" "I" ∈ xW := xW_of (List.mem_append_right _ (List.mem_append_right _ (List.mem_append_left _ (List.mem_of_getElem? (i := 124) rfl)))) rfl
set_option maxRecDepth 20000 in
theorem kw427 : Cond.fieldLink "MeasureBook" 212 "MeasureBook" "results" "I" ∈ xW := xW_of (List.mem_append_right _ (List.mem_append_right _ (List.mem_append_left _ (List.mem_of_getElem? (i := 125) rfl)))) rfl
set_option maxRecDepth 20000 in
theorem kw451 : Cond.methodLink "MeasureBookLaw" 21 yX10_feed ∈ xW := xW_of (List.mem_append_right _ (List.mem_append_right _ (List.mem_append_left _ (List.mem_of_getElem? (i := 149) rfl)))) rfl
set_option maxRecDepth 20000 in
theorem kw452 : Cond.instanceMethod yX10_feed ∈ xW := xW_of (List.mem_append_right _ (List.mem_append_right _ (List.mem_append_left _ (List.mem_of_getElem? (i := 150) rfl)))) rfl
set_option maxRecDepth 20000 in
theorem kw453 : Cond.selects "MeasureBook" yX10_feed yX10_feed ∈ xW := xW_of (List.mem_append_right _ (List.mem_append_right _ (List.mem_append_left _ (List.mem_of_getElem? (i := 151) rfl)))) rfl
set_option maxRecDepth 20000 in
theorem kw454 : Cond.code yX10_feed cX10_feed 6 (some .int) ∈ xW := xW_of (List.mem_append_right _ (List.mem_append_right _ (List.mem_append_left _ (List.mem_of_getElem? (i := 152) rfl)))) rfl
set_option maxRecDepth 20000 in
theorem kw455 : Cond.methodLink "MeasureBook" 66 yX10_putBytes ∈ xW := xW_of (List.mem_append_right _ (List.mem_append_right _ (List.mem_append_left _ (List.mem_of_getElem? (i := 153) rfl)))) rfl
set_option maxRecDepth 20000 in
theorem kw457 : Cond.instanceMethod yX10_putBytes ∈ xW := xW_of (List.mem_append_right _ (List.mem_append_right _ (List.mem_append_left _ (List.mem_of_getElem? (i := 155) rfl)))) rfl
set_option maxRecDepth 20000 in
theorem kw458 : Cond.code yX10_putBytes cX10_putBytes 3 none ∈ xW := xW_of (List.mem_append_right _ (List.mem_append_right _ (List.mem_append_left _ (List.mem_of_getElem? (i := 156) rfl)))) rfl
set_option maxRecDepth 20000 in
theorem kw459 : Cond.methodLink "MeasureBookLaw" 26 yX10_cut ∈ xW := xW_of (List.mem_append_right _ (List.mem_append_right _ (List.mem_append_left _ (List.mem_of_getElem? (i := 157) rfl)))) rfl
set_option maxRecDepth 20000 in
theorem kw460 : Cond.instanceMethod yX10_cut ∈ xW := xW_of (List.mem_append_right _ (List.mem_append_right _ (List.mem_append_left _ (List.mem_of_getElem? (i := 158) rfl)))) rfl
set_option maxRecDepth 20000 in
theorem kw461 : Cond.selects "MeasureBook" yX10_cut yX10_cut ∈ xW := xW_of (List.mem_append_right _ (List.mem_append_right _ (List.mem_append_left _ (List.mem_of_getElem? (i := 159) rfl)))) rfl
set_option maxRecDepth 20000 in
theorem kw462 : Cond.code yX10_cut cX10_cut 3 (some .int) ∈ xW := xW_of (List.mem_append_right _ (List.mem_append_right _ (List.mem_append_left _ (List.mem_of_getElem? (i := 160) rfl)))) rfl
set_option maxRecDepth 20000 in
theorem kw463 : Cond.methodLink "MeasureBookLaw" 31 yX10_define ∈ xW := xW_of (List.mem_append_right _ (List.mem_append_right _ (List.mem_append_left _ (List.mem_of_getElem? (i := 161) rfl)))) rfl
set_option maxRecDepth 20000 in
theorem kw464 : Cond.instanceMethod yX10_define ∈ xW := xW_of (List.mem_append_right _ (List.mem_append_right _ (List.mem_append_left _ (List.mem_of_getElem? (i := 162) rfl)))) rfl
set_option maxRecDepth 20000 in
theorem kw465 : Cond.selects "MeasureBook" yX10_define yX10_define ∈ xW := xW_of (List.mem_append_right _ (List.mem_append_right _ (List.mem_append_left _ (List.mem_of_getElem? (i := 163) rfl)))) rfl
set_option maxRecDepth 20000 in
theorem kw466 : Cond.code yX10_define cX10_define 5 (some .int) ∈ xW := xW_of (List.mem_append_right _ (List.mem_append_right _ (List.mem_append_left _ (List.mem_of_getElem? (i := 164) rfl)))) rfl
set_option maxRecDepth 20000 in
theorem kw467 : Cond.methodLink "MeasureBook" 69 yX1_textEnd ∈ xW := xW_of (List.mem_append_right _ (List.mem_append_right _ (List.mem_append_left _ (List.mem_of_getElem? (i := 165) rfl)))) rfl
set_option maxRecDepth 20000 in
theorem kw468 : Cond.instanceMethod yX1_textEnd ∈ xW := xW_of (List.mem_append_right _ (List.mem_append_right _ (List.mem_append_left _ (List.mem_of_getElem? (i := 166) rfl)))) rfl
set_option maxRecDepth 20000 in
theorem kw469 : Cond.selects "MeasureBook$Book" yX1_textEnd yX1_textEnd ∈ xW := xW_of (List.mem_append_right _ (List.mem_append_right _ (List.mem_append_left _ (List.mem_of_getElem? (i := 167) rfl)))) rfl
set_option maxRecDepth 20000 in
theorem kw470 : Cond.code yX1_textEnd cX1_textEnd 1 (some .int) ∈ xW := xW_of (List.mem_append_right _ (List.mem_append_right _ (List.mem_append_left _ (List.mem_of_getElem? (i := 168) rfl)))) rfl
set_option maxRecDepth 20000 in
theorem kw471 : Cond.methodLink "MeasureBook" 73 yX10_takeTape ∈ xW := xW_of (List.mem_append_right _ (List.mem_append_right _ (List.mem_append_left _ (List.mem_of_getElem? (i := 169) rfl)))) rfl
set_option maxRecDepth 20000 in
theorem kw473 : Cond.instanceMethod yX10_takeTape ∈ xW := xW_of (List.mem_append_right _ (List.mem_append_right _ (List.mem_append_left _ (List.mem_of_getElem? (i := 171) rfl)))) rfl
set_option maxRecDepth 20000 in
theorem kw474 : Cond.code yX10_takeTape cX10_takeTape 3 (some .int) ∈ xW := xW_of (List.mem_append_right _ (List.mem_append_right _ (List.mem_append_left _ (List.mem_of_getElem? (i := 172) rfl)))) rfl
set_option maxRecDepth 20000 in
theorem kw475 : Cond.methodLink "MeasureBook" 218 arraycopyName ∈ xW := xW_of (List.mem_append_right _ (List.mem_append_right _ (List.mem_append_left _ (List.mem_of_getElem? (i := 173) rfl)))) rfl
set_option maxRecDepth 20000 in
theorem kw476 : Cond.static arraycopyName ∈ xW := xW_of (List.mem_append_right _ (List.mem_append_right _ (List.mem_append_left _ (List.mem_of_getElem? (i := 174) rfl)))) rfl
set_option maxRecDepth 20000 in
theorem kw477 : Cond.native arraycopyName ∈ xW := xW_of (List.mem_append_right _ (List.mem_append_right _ (List.mem_append_left _ (List.mem_of_getElem? (i := 175) rfl)))) rfl
set_option maxRecDepth 20000 in
theorem kw478 : Cond.methodLink "MeasureBook" 80 yX10_readFile ∈ xW := xW_of (List.mem_append_right _ (List.mem_append_right _ (List.mem_append_left _ (List.mem_of_getElem? (i := 176) rfl)))) rfl
set_option maxRecDepth 20000 in
theorem kw480 : Cond.instanceMethod yX10_readFile ∈ xW := xW_of (List.mem_append_right _ (List.mem_append_right _ (List.mem_append_left _ (List.mem_of_getElem? (i := 178) rfl)))) rfl
set_option maxRecDepth 20000 in
theorem kw481 : Cond.code yX10_readFile cX10_readFile 7 (some .int) ∈ xW := xW_of (List.mem_append_right _ (List.mem_append_right _ (List.mem_append_left _ (List.mem_of_getElem? (i := 179) rfl)))) rfl
set_option maxRecDepth 20000 in
theorem kw482 : Cond.methodLink "MeasureBook" 224 yX1_textUntil ∈ xW := xW_of (List.mem_append_right _ (List.mem_append_right _ (List.mem_append_left _ (List.mem_of_getElem? (i := 180) rfl)))) rfl
set_option maxRecDepth 20000 in
theorem kw483 : Cond.instanceMethod yX1_textUntil ∈ xW := xW_of (List.mem_append_right _ (List.mem_append_right _ (List.mem_append_left _ (List.mem_of_getElem? (i := 181) rfl)))) rfl
set_option maxRecDepth 20000 in
theorem kw484 : Cond.selects "MeasureBook$Book" yX1_textUntil yX1_textUntil ∈ xW := xW_of (List.mem_append_right _ (List.mem_append_right _ (List.mem_append_left _ (List.mem_of_getElem? (i := 182) rfl)))) rfl
set_option maxRecDepth 20000 in
theorem kw485 : Cond.code yX1_textUntil cX1_textUntil 5 (some .int) ∈ xW := xW_of (List.mem_append_right _ (List.mem_append_right _ (List.mem_append_left _ (List.mem_of_getElem? (i := 183) rfl)))) rfl
set_option maxRecDepth 20000 in
theorem kw486 : Cond.methodLink "MeasureBook$Book" 54 yX1_byteAt ∈ xW := xW_of (List.mem_append_right _ (List.mem_append_right _ (List.mem_append_left _ (List.mem_of_getElem? (i := 184) rfl)))) rfl
set_option maxRecDepth 20000 in
theorem kw487 : Cond.instanceMethod yX1_byteAt ∈ xW := xW_of (List.mem_append_right _ (List.mem_append_right _ (List.mem_append_left _ (List.mem_of_getElem? (i := 185) rfl)))) rfl
set_option maxRecDepth 20000 in
theorem kw488 : Cond.selects "MeasureBook$Book" yX1_byteAt yX1_byteAt ∈ xW := xW_of (List.mem_append_right _ (List.mem_append_right _ (List.mem_append_left _ (List.mem_of_getElem? (i := 186) rfl)))) rfl
set_option maxRecDepth 20000 in
theorem kw489 : Cond.code yX1_byteAt cX1_byteAt 2 (some .int) ∈ xW := xW_of (List.mem_append_right _ (List.mem_append_right _ (List.mem_append_left _ (List.mem_of_getElem? (i := 187) rfl)))) rfl
set_option maxRecDepth 20000 in
theorem kw490 : Cond.methodLink "MeasureBook" 228 yX10_readLine ∈ xW := xW_of (List.mem_append_right _ (List.mem_append_right _ (List.mem_append_left _ (List.mem_of_getElem? (i := 188) rfl)))) rfl
set_option maxRecDepth 20000 in
theorem kw492 : Cond.instanceMethod yX10_readLine ∈ xW := xW_of (List.mem_append_right _ (List.mem_append_right _ (List.mem_append_left _ (List.mem_of_getElem? (i := 190) rfl)))) rfl
set_option maxRecDepth 20000 in
theorem kw493 : Cond.code yX10_readLine cX10_readLine 12 (some .int) ∈ xW := xW_of (List.mem_append_right _ (List.mem_append_right _ (List.mem_append_left _ (List.mem_of_getElem? (i := 191) rfl)))) rfl
set_option maxRecDepth 20000 in
theorem kw494 : Cond.methodLink "MeasureBook" 231 yX8_begin ∈ xW := xW_of (List.mem_append_right _ (List.mem_append_right _ (List.mem_append_left _ (List.mem_of_getElem? (i := 192) rfl)))) rfl
set_option maxRecDepth 20000 in
theorem kw495 : Cond.instanceMethod yX8_begin ∈ xW := xW_of (List.mem_append_right _ (List.mem_append_right _ (List.mem_append_left _ (List.mem_of_getElem? (i := 193) rfl)))) rfl
set_option maxRecDepth 20000 in
theorem kw496 : Cond.selects "MeasureBook$Tokens" yX8_begin yX8_begin ∈ xW := xW_of (List.mem_append_right _ (List.mem_append_right _ (List.mem_append_left _ (List.mem_of_getElem? (i := 194) rfl)))) rfl
set_option maxRecDepth 20000 in
theorem kw497 : Cond.code yX8_begin cX8_begin 4 none ∈ xW := xW_of (List.mem_append_right _ (List.mem_append_right _ (List.mem_append_left _ (List.mem_of_getElem? (i := 195) rfl)))) rfl
set_option maxRecDepth 20000 in
theorem kw498 : Cond.methodLink "MeasureBook$Tokens" 15 yJ9_min_7cf53 ∈ xW := xW_of (List.mem_append_right _ (List.mem_append_right _ (List.mem_append_left _ (List.mem_of_getElem? (i := 196) rfl)))) rfl
set_option maxRecDepth 20000 in
theorem kw499 : Cond.methodLink "MeasureBook$Tokens" 21 yJ9_max_7cf53 ∈ xW := xW_of (List.mem_append_right _ (List.mem_append_right _ (List.mem_append_left _ (List.mem_of_getElem? (i := 197) rfl)))) rfl
set_option maxRecDepth 20000 in
theorem kw500 : Cond.methodLink "MeasureBook$Tokens" 31 yX8_next ∈ xW := xW_of (List.mem_append_right _ (List.mem_append_right _ (List.mem_append_left _ (List.mem_of_getElem? (i := 198) rfl)))) rfl
set_option maxRecDepth 20000 in
theorem kw501 : Cond.instanceMethod yX8_next ∈ xW := xW_of (List.mem_append_right _ (List.mem_append_right _ (List.mem_append_left _ (List.mem_of_getElem? (i := 199) rfl)))) rfl
set_option maxRecDepth 20000 in
theorem kw502 : Cond.selects "MeasureBook$Tokens" yX8_next yX8_next ∈ xW := xW_of (List.mem_append_right _ (List.mem_append_right _ (List.mem_append_left _ (List.mem_of_getElem? (i := 200) rfl)))) rfl
set_option maxRecDepth 20000 in
theorem kw503 : Cond.code yX8_next cX8_next 2 none ∈ xW := xW_of (List.mem_append_right _ (List.mem_append_right _ (List.mem_append_left _ (List.mem_of_getElem? (i := 201) rfl)))) rfl
set_option maxRecDepth 20000 in
theorem kw504 : Cond.methodLink "MeasureBook$Tokens" 34 yX8_isBlank ∈ xW := xW_of (List.mem_append_right _ (List.mem_append_right _ (List.mem_append_left _ (List.mem_of_getElem? (i := 202) rfl)))) rfl
set_option maxRecDepth 20000 in
theorem kw505 : Cond.static yX8_isBlank ∈ xW := xW_of (List.mem_append_right _ (List.mem_append_right _ (List.mem_append_left _ (List.mem_of_getElem? (i := 203) rfl)))) rfl
set_option maxRecDepth 20000 in
theorem kw506 : Cond.code yX8_isBlank cX8_isBlank 1 (some .boolean) ∈ xW := xW_of (List.mem_append_right _ (List.mem_append_right _ (List.mem_append_left _ (List.mem_of_getElem? (i := 204) rfl)))) rfl
set_option maxRecDepth 20000 in
theorem kw507 : Cond.methodLink "MeasureBook$Tokens" 41 yX8_byteAt ∈ xW := xW_of (List.mem_append_right _ (List.mem_append_right _ (List.mem_append_left _ (List.mem_of_getElem? (i := 205) rfl)))) rfl
set_option maxRecDepth 20000 in
theorem kw508 : Cond.instanceMethod yX8_byteAt ∈ xW := xW_of (List.mem_append_right _ (List.mem_append_right _ (List.mem_append_left _ (List.mem_of_getElem? (i := 206) rfl)))) rfl
set_option maxRecDepth 20000 in
theorem kw509 : Cond.selects "MeasureBook$Tokens" yX8_byteAt yX8_byteAt ∈ xW := xW_of (List.mem_append_right _ (List.mem_append_right _ (List.mem_append_left _ (List.mem_of_getElem? (i := 207) rfl)))) rfl
set_option maxRecDepth 20000 in
theorem kw510 : Cond.code yX8_byteAt cX8_byteAt 2 (some .int) ∈ xW := xW_of (List.mem_append_right _ (List.mem_append_right _ (List.mem_append_left _ (List.mem_of_getElem? (i := 208) rfl)))) rfl
set_option maxRecDepth 20000 in
theorem kw511 : Cond.methodLink "MeasureBook$Tokens" 48 yX8_isLetter ∈ xW := xW_of (List.mem_append_right _ (List.mem_append_right _ (List.mem_append_left _ (List.mem_of_getElem? (i := 209) rfl)))) rfl
set_option maxRecDepth 20000 in
theorem kw512 : Cond.static yX8_isLetter ∈ xW := xW_of (List.mem_append_right _ (List.mem_append_right _ (List.mem_append_left _ (List.mem_of_getElem? (i := 210) rfl)))) rfl
set_option maxRecDepth 20000 in
theorem kw513 : Cond.code yX8_isLetter cX8_isLetter 1 (some .boolean) ∈ xW := xW_of (List.mem_append_right _ (List.mem_append_right _ (List.mem_append_left _ (List.mem_of_getElem? (i := 211) rfl)))) rfl
set_option maxRecDepth 20000 in
theorem kw514 : Cond.methodLink "MeasureBook$Tokens" 51 yX8_passName ∈ xW := xW_of (List.mem_append_right _ (List.mem_append_right _ (List.mem_append_left _ (List.mem_of_getElem? (i := 212) rfl)))) rfl
set_option maxRecDepth 20000 in
theorem kw515 : Cond.instanceMethod yX8_passName ∈ xW := xW_of (List.mem_append_right _ (List.mem_append_right _ (List.mem_append_left _ (List.mem_of_getElem? (i := 213) rfl)))) rfl
set_option maxRecDepth 20000 in
theorem kw516 : Cond.selects "MeasureBook$Tokens" yX8_passName yX8_passName ∈ xW := xW_of (List.mem_append_right _ (List.mem_append_right _ (List.mem_append_left _ (List.mem_of_getElem? (i := 214) rfl)))) rfl
set_option maxRecDepth 20000 in
theorem kw517 : Cond.code yX8_passName cX8_passName 1 none ∈ xW := xW_of (List.mem_append_right _ (List.mem_append_right _ (List.mem_append_left _ (List.mem_of_getElem? (i := 215) rfl)))) rfl
set_option maxRecDepth 20000 in
theorem kw518 : Cond.methodLink "MeasureBook$Tokens" 54 yX8_isDigit ∈ xW := xW_of (List.mem_append_right _ (List.mem_append_right _ (List.mem_append_left _ (List.mem_of_getElem? (i := 216) rfl)))) rfl
set_option maxRecDepth 20000 in
theorem kw519 : Cond.static yX8_isDigit ∈ xW := xW_of (List.mem_append_right _ (List.mem_append_right _ (List.mem_append_left _ (List.mem_of_getElem? (i := 217) rfl)))) rfl
set_option maxRecDepth 20000 in
theorem kw520 : Cond.code yX8_isDigit cX8_isDigit 1 (some .boolean) ∈ xW := xW_of (List.mem_append_right _ (List.mem_append_right _ (List.mem_append_left _ (List.mem_of_getElem? (i := 218) rfl)))) rfl
set_option maxRecDepth 20000 in
theorem kw521 : Cond.methodLink "MeasureBook$Tokens" 57 yX8_passNumber ∈ xW := xW_of (List.mem_append_right _ (List.mem_append_right _ (List.mem_append_left _ (List.mem_of_getElem? (i := 219) rfl)))) rfl
set_option maxRecDepth 20000 in
theorem kw522 : Cond.instanceMethod yX8_passNumber ∈ xW := xW_of (List.mem_append_right _ (List.mem_append_right _ (List.mem_append_left _ (List.mem_of_getElem? (i := 220) rfl)))) rfl
set_option maxRecDepth 20000 in
theorem kw523 : Cond.selects "MeasureBook$Tokens" yX8_passNumber yX8_passNumber ∈ xW := xW_of (List.mem_append_right _ (List.mem_append_right _ (List.mem_append_left _ (List.mem_of_getElem? (i := 221) rfl)))) rfl
set_option maxRecDepth 20000 in
theorem kw524 : Cond.code yX8_passNumber cX8_passNumber 4 none ∈ xW := xW_of (List.mem_append_right _ (List.mem_append_right _ (List.mem_append_left _ (List.mem_of_getElem? (i := 222) rfl)))) rfl
set_option maxRecDepth 20000 in
theorem kw525 : Cond.methodLink "MeasureBook$Tokens" 63 yX8_passDigits ∈ xW := xW_of (List.mem_append_right _ (List.mem_append_right _ (List.mem_append_left _ (List.mem_of_getElem? (i := 223) rfl)))) rfl
set_option maxRecDepth 20000 in
theorem kw526 : Cond.instanceMethod yX8_passDigits ∈ xW := xW_of (List.mem_append_right _ (List.mem_append_right _ (List.mem_append_left _ (List.mem_of_getElem? (i := 224) rfl)))) rfl
set_option maxRecDepth 20000 in
theorem kw527 : Cond.selects "MeasureBook$Tokens" yX8_passDigits yX8_passDigits ∈ xW := xW_of (List.mem_append_right _ (List.mem_append_right _ (List.mem_append_left _ (List.mem_of_getElem? (i := 225) rfl)))) rfl
set_option maxRecDepth 20000 in
theorem kw528 : Cond.code yX8_passDigits cX8_passDigits 2 (some .int) ∈ xW := xW_of (List.mem_append_right _ (List.mem_append_right _ (List.mem_append_left _ (List.mem_of_getElem? (i := 226) rfl)))) rfl
set_option maxRecDepth 20000 in
theorem kw529 : Cond.methodLink "MeasureBook$Tokens" 60 yX8_isSign ∈ xW := xW_of (List.mem_append_right _ (List.mem_append_right _ (List.mem_append_left _ (List.mem_of_getElem? (i := 227) rfl)))) rfl
set_option maxRecDepth 20000 in
theorem kw530 : Cond.static yX8_isSign ∈ xW := xW_of (List.mem_append_right _ (List.mem_append_right _ (List.mem_append_left _ (List.mem_of_getElem? (i := 228) rfl)))) rfl
set_option maxRecDepth 20000 in
theorem kw531 : Cond.code yX8_isSign cX8_isSign 1 (some .boolean) ∈ xW := xW_of (List.mem_append_right _ (List.mem_append_right _ (List.mem_append_left _ (List.mem_of_getElem? (i := 229) rfl)))) rfl
set_option maxRecDepth 20000 in
theorem kw532 : Cond.methodLink "MeasureBook" 238 yX8_byteAt ∈ xW := xW_of (List.mem_append_right _ (List.mem_append_right _ (List.mem_append_left _ (List.mem_of_getElem? (i := 230) rfl)))) rfl
set_option maxRecDepth 20000 in
theorem kw533 : Cond.methodLink "MeasureBook" 239 yX1_codeEnd ∈ xW := xW_of (List.mem_append_right _ (List.mem_append_right _ (List.mem_append_left _ (List.mem_of_getElem? (i := 231) rfl)))) rfl
set_option maxRecDepth 20000 in
theorem kw534 : Cond.instanceMethod yX1_codeEnd ∈ xW := xW_of (List.mem_append_right _ (List.mem_append_right _ (List.mem_append_left _ (List.mem_of_getElem? (i := 232) rfl)))) rfl
set_option maxRecDepth 20000 in
theorem kw535 : Cond.selects "MeasureBook$Book" yX1_codeEnd yX1_codeEnd ∈ xW := xW_of (List.mem_append_right _ (List.mem_append_right _ (List.mem_append_left _ (List.mem_of_getElem? (i := 233) rfl)))) rfl
set_option maxRecDepth 20000 in
theorem kw536 : Cond.code yX1_codeEnd cX1_codeEnd 1 (some .int) ∈ xW := xW_of (List.mem_append_right _ (List.mem_append_right _ (List.mem_append_left _ (List.mem_of_getElem? (i := 234) rfl)))) rfl
set_option maxRecDepth 20000 in
theorem kw537 : Cond.methodLink "MeasureBook" 129 yX8_next ∈ xW := xW_of (List.mem_append_right _ (List.mem_append_right _ (List.mem_append_left _ (List.mem_of_getElem? (i := 235) rfl)))) rfl
set_option maxRecDepth 20000 in
theorem kw538 : Cond.methodLink "MeasureBook" 109 yX6_readExpr ∈ xW := xW_of (List.mem_append_right _ (List.mem_append_right _ (List.mem_append_left _ (List.mem_of_getElem? (i := 236) rfl)))) rfl
set_option maxRecDepth 20000 in
theorem kw539 : Cond.instanceMethod yX6_readExpr ∈ xW := xW_of (List.mem_append_right _ (List.mem_append_right _ (List.mem_append_left _ (List.mem_of_getElem? (i := 237) rfl)))) rfl
set_option maxRecDepth 20000 in
theorem kw540 : Cond.selects "MeasureBook$Parser" yX6_readExpr yX6_readExpr ∈ xW := xW_of (List.mem_append_right _ (List.mem_append_right _ (List.mem_append_left _ (List.mem_of_getElem? (i := 238) rfl)))) rfl
set_option maxRecDepth 20000 in
theorem kw541 : Cond.code yX6_readExpr cX6_readExpr 4 (some .boolean) ∈ xW := xW_of (List.mem_append_right _ (List.mem_append_right _ (List.mem_append_left _ (List.mem_of_getElem? (i := 239) rfl)))) rfl
set_option maxRecDepth 20000 in
theorem kw542 : Cond.methodLink "MeasureBook$Parser" 32 yX6_readMinus ∈ xW := xW_of (List.mem_append_right _ (List.mem_append_right _ (List.mem_append_right _ (List.mem_append_left _ (List.mem_of_getElem? (i := 0) rfl))))) rfl
set_option maxRecDepth 20000 in
theorem kw543 : Cond.instanceMethod yX6_readMinus ∈ xW := xW_of (List.mem_append_right _ (List.mem_append_right _ (List.mem_append_right _ (List.mem_append_left _ (List.mem_of_getElem? (i := 1) rfl))))) rfl
set_option maxRecDepth 20000 in
theorem kw544 : Cond.selects "MeasureBook$Parser" yX6_readMinus yX6_readMinus ∈ xW := xW_of (List.mem_append_right _ (List.mem_append_right _ (List.mem_append_right _ (List.mem_append_left _ (List.mem_of_getElem? (i := 2) rfl))))) rfl
set_option maxRecDepth 20000 in
theorem kw545 : Cond.code yX6_readMinus cX6_readMinus 1 none ∈ xW := xW_of (List.mem_append_right _ (List.mem_append_right _ (List.mem_append_right _ (List.mem_append_left _ (List.mem_of_getElem? (i := 3) rfl))))) rfl
set_option maxRecDepth 20000 in
theorem kw546 : Cond.methodLink "MeasureBook$Parser" 63 yX6_hold ∈ xW := xW_of (List.mem_append_right _ (List.mem_append_right _ (List.mem_append_right _ (List.mem_append_left _ (List.mem_of_getElem? (i := 4) rfl))))) rfl
set_option maxRecDepth 20000 in
theorem kw547 : Cond.instanceMethod yX6_hold ∈ xW := xW_of (List.mem_append_right _ (List.mem_append_right _ (List.mem_append_right _ (List.mem_append_left _ (List.mem_of_getElem? (i := 5) rfl))))) rfl
set_option maxRecDepth 20000 in
theorem kw548 : Cond.selects "MeasureBook$Parser" yX6_hold yX6_hold ∈ xW := xW_of (List.mem_append_right _ (List.mem_append_right _ (List.mem_append_right _ (List.mem_append_left _ (List.mem_of_getElem? (i := 6) rfl))))) rfl
set_option maxRecDepth 20000 in
theorem kw549 : Cond.code yX6_hold cX6_hold 2 none ∈ xW := xW_of (List.mem_append_right _ (List.mem_append_right _ (List.mem_append_right _ (List.mem_append_left _ (List.mem_of_getElem? (i := 7) rfl))))) rfl
set_option maxRecDepth 20000 in
theorem kw550 : Cond.methodLink "MeasureBook$Parser" 67 yX8_next ∈ xW := xW_of (List.mem_append_right _ (List.mem_append_right _ (List.mem_append_right _ (List.mem_append_left _ (List.mem_of_getElem? (i := 8) rfl))))) rfl
set_option maxRecDepth 20000 in
theorem kw551 : Cond.methodLink "MeasureBook$Parser" 38 yX6_openNested ∈ xW := xW_of (List.mem_append_right _ (List.mem_append_right _ (List.mem_append_right _ (List.mem_append_left _ (List.mem_of_getElem? (i := 9) rfl))))) rfl
set_option maxRecDepth 20000 in
theorem kw552 : Cond.instanceMethod yX6_openNested ∈ xW := xW_of (List.mem_append_right _ (List.mem_append_right _ (List.mem_append_right _ (List.mem_append_left _ (List.mem_of_getElem? (i := 10) rfl))))) rfl
set_option maxRecDepth 20000 in
theorem kw553 : Cond.selects "MeasureBook$Parser" yX6_openNested yX6_openNested ∈ xW := xW_of (List.mem_append_right _ (List.mem_append_right _ (List.mem_append_right _ (List.mem_append_left _ (List.mem_of_getElem? (i := 11) rfl))))) rfl
set_option maxRecDepth 20000 in
theorem kw554 : Cond.code yX6_openNested cX6_openNested 1 none ∈ xW := xW_of (List.mem_append_right _ (List.mem_append_right _ (List.mem_append_right _ (List.mem_append_left _ (List.mem_of_getElem? (i := 12) rfl))))) rfl
set_option maxRecDepth 20000 in
theorem kw555 : Cond.methodLink "MeasureBook$Parser" 41 yX6_readOne ∈ xW := xW_of (List.mem_append_right _ (List.mem_append_right _ (List.mem_append_right _ (List.mem_append_left _ (List.mem_of_getElem? (i := 13) rfl))))) rfl
set_option maxRecDepth 20000 in
theorem kw556 : Cond.instanceMethod yX6_readOne ∈ xW := xW_of (List.mem_append_right _ (List.mem_append_right _ (List.mem_append_right _ (List.mem_append_left _ (List.mem_of_getElem? (i := 14) rfl))))) rfl
set_option maxRecDepth 20000 in
theorem kw557 : Cond.selects "MeasureBook$Parser" yX6_readOne yX6_readOne ∈ xW := xW_of (List.mem_append_right _ (List.mem_append_right _ (List.mem_append_right _ (List.mem_append_left _ (List.mem_of_getElem? (i := 15) rfl))))) rfl
set_option maxRecDepth 20000 in
theorem kw558 : Cond.code yX6_readOne cX6_readOne 4 (some .boolean) ∈ xW := xW_of (List.mem_append_right _ (List.mem_append_right _ (List.mem_append_right _ (List.mem_append_left _ (List.mem_of_getElem? (i := 16) rfl))))) rfl
set_option maxRecDepth 20000 in
theorem kw559 : Cond.methodLink "MeasureBook$Parser" 82 yX2_add ∈ xW := xW_of (List.mem_append_right _ (List.mem_append_right _ (List.mem_append_right _ (List.mem_append_left _ (List.mem_of_getElem? (i := 17) rfl))))) rfl
set_option maxRecDepth 20000 in
theorem kw560 : Cond.instanceMethod yX2_add ∈ xW := xW_of (List.mem_append_right _ (List.mem_append_right _ (List.mem_append_right _ (List.mem_append_left _ (List.mem_of_getElem? (i := 18) rfl))))) rfl
set_option maxRecDepth 20000 in
theorem kw561 : Cond.selects "MeasureBook$Code" yX2_add yX2_add ∈ xW := xW_of (List.mem_append_right _ (List.mem_append_right _ (List.mem_append_right _ (List.mem_append_left _ (List.mem_of_getElem? (i := 19) rfl))))) rfl
set_option maxRecDepth 20000 in
theorem kw562 : Cond.code yX2_add cX2_add 4 none ∈ xW := xW_of (List.mem_append_right _ (List.mem_append_right _ (List.mem_append_right _ (List.mem_append_left _ (List.mem_of_getElem? (i := 20) rfl))))) rfl
set_option maxRecDepth 20000 in
theorem kw563 : Cond.methodLink "MeasureBook$Parser" 45 yX6_readPower ∈ xW := xW_of (List.mem_append_right _ (List.mem_append_right _ (List.mem_append_right _ (List.mem_append_left _ (List.mem_of_getElem? (i := 21) rfl))))) rfl
set_option maxRecDepth 20000 in
theorem kw564 : Cond.instanceMethod yX6_readPower ∈ xW := xW_of (List.mem_append_right _ (List.mem_append_right _ (List.mem_append_right _ (List.mem_append_left _ (List.mem_of_getElem? (i := 22) rfl))))) rfl
set_option maxRecDepth 20000 in
theorem kw565 : Cond.selects "MeasureBook$Parser" yX6_readPower yX6_readPower ∈ xW := xW_of (List.mem_append_right _ (List.mem_append_right _ (List.mem_append_right _ (List.mem_append_left _ (List.mem_of_getElem? (i := 23) rfl))))) rfl
set_option maxRecDepth 20000 in
theorem kw566 : Cond.code yX6_readPower cX6_readPower 5 (some .boolean) ∈ xW := xW_of (List.mem_append_right _ (List.mem_append_right _ (List.mem_append_right _ (List.mem_append_left _ (List.mem_of_getElem? (i := 24) rfl))))) rfl
set_option maxRecDepth 20000 in
theorem kw567 : Cond.methodLink "MeasureBook$Parser" 92 yX8_numberUpTo ∈ xW := xW_of (List.mem_append_right _ (List.mem_append_right _ (List.mem_append_right _ (List.mem_append_left _ (List.mem_of_getElem? (i := 25) rfl))))) rfl
set_option maxRecDepth 20000 in
theorem kw568 : Cond.instanceMethod yX8_numberUpTo ∈ xW := xW_of (List.mem_append_right _ (List.mem_append_right _ (List.mem_append_right _ (List.mem_append_left _ (List.mem_of_getElem? (i := 26) rfl))))) rfl
set_option maxRecDepth 20000 in
theorem kw569 : Cond.selects "MeasureBook$Tokens" yX8_numberUpTo yX8_numberUpTo ∈ xW := xW_of (List.mem_append_right _ (List.mem_append_right _ (List.mem_append_right _ (List.mem_append_left _ (List.mem_of_getElem? (i := 27) rfl))))) rfl
set_option maxRecDepth 20000 in
theorem kw570 : Cond.code yX8_numberUpTo cX8_numberUpTo 4 (some .int) ∈ xW := xW_of (List.mem_append_right _ (List.mem_append_right _ (List.mem_append_right _ (List.mem_append_left _ (List.mem_of_getElem? (i := 28) rfl))))) rfl
set_option maxRecDepth 20000 in
theorem kw571 : Cond.methodLink "MeasureBook$Parser" 48 yX6_closeNested ∈ xW := xW_of (List.mem_append_right _ (List.mem_append_right _ (List.mem_append_right _ (List.mem_append_left _ (List.mem_of_getElem? (i := 29) rfl))))) rfl
set_option maxRecDepth 20000 in
theorem kw572 : Cond.instanceMethod yX6_closeNested ∈ xW := xW_of (List.mem_append_right _ (List.mem_append_right _ (List.mem_append_right _ (List.mem_append_left _ (List.mem_of_getElem? (i := 30) rfl))))) rfl
set_option maxRecDepth 20000 in
theorem kw573 : Cond.selects "MeasureBook$Parser" yX6_closeNested yX6_closeNested ∈ xW := xW_of (List.mem_append_right _ (List.mem_append_right _ (List.mem_append_right _ (List.mem_append_left _ (List.mem_of_getElem? (i := 31) rfl))))) rfl
set_option maxRecDepth 20000 in
theorem kw574 : Cond.code yX6_closeNested cX6_closeNested 2 none ∈ xW := xW_of (List.mem_append_right _ (List.mem_append_right _ (List.mem_append_right _ (List.mem_append_left _ (List.mem_of_getElem? (i := 32) rfl))))) rfl
set_option maxRecDepth 20000 in
theorem kw575 : Cond.methodLink "MeasureBook$Parser" 59 yX6_release ∈ xW := xW_of (List.mem_append_right _ (List.mem_append_right _ (List.mem_append_right _ (List.mem_append_left _ (List.mem_of_getElem? (i := 33) rfl))))) rfl
set_option maxRecDepth 20000 in
theorem kw576 : Cond.instanceMethod yX6_release ∈ xW := xW_of (List.mem_append_right _ (List.mem_append_right _ (List.mem_append_right _ (List.mem_append_left _ (List.mem_of_getElem? (i := 34) rfl))))) rfl
set_option maxRecDepth 20000 in
theorem kw577 : Cond.selects "MeasureBook$Parser" yX6_release yX6_release ∈ xW := xW_of (List.mem_append_right _ (List.mem_append_right _ (List.mem_append_right _ (List.mem_append_left _ (List.mem_of_getElem? (i := 35) rfl))))) rfl
set_option maxRecDepth 20000 in
theorem kw578 : Cond.code yX6_release cX6_release 4 none ∈ xW := xW_of (List.mem_append_right _ (List.mem_append_right _ (List.mem_append_right _ (List.mem_append_left _ (List.mem_of_getElem? (i := 36) rfl))))) rfl
set_option maxRecDepth 20000 in
theorem kw579 : Cond.methodLink "MeasureBook$Parser" 56 yX6_rankOf ∈ xW := xW_of (List.mem_append_right _ (List.mem_append_right _ (List.mem_append_right _ (List.mem_append_left _ (List.mem_of_getElem? (i := 37) rfl))))) rfl
set_option maxRecDepth 20000 in
theorem kw580 : Cond.static yX6_rankOf ∈ xW := xW_of (List.mem_append_right _ (List.mem_append_right _ (List.mem_append_right _ (List.mem_append_left _ (List.mem_of_getElem? (i := 38) rfl))))) rfl
set_option maxRecDepth 20000 in
theorem kw581 : Cond.code yX6_rankOf cX6_rankOf 1 (some .int) ∈ xW := xW_of (List.mem_append_right _ (List.mem_append_right _ (List.mem_append_right _ (List.mem_append_left _ (List.mem_of_getElem? (i := 39) rfl))))) rfl
set_option maxRecDepth 20000 in
theorem kw582 : Cond.methodLink "MeasureBook$Parser" 70 yJ9_max_7cf53 ∈ xW := xW_of (List.mem_append_right _ (List.mem_append_right _ (List.mem_append_right _ (List.mem_append_left _ (List.mem_of_getElem? (i := 40) rfl))))) rfl
set_option maxRecDepth 20000 in
theorem kw583 : Cond.methodLink "MeasureBook$Parser" 52 yX6_jointFor ∈ xW := xW_of (List.mem_append_right _ (List.mem_append_right _ (List.mem_append_right _ (List.mem_append_left _ (List.mem_of_getElem? (i := 41) rfl))))) rfl
set_option maxRecDepth 20000 in
theorem kw584 : Cond.static yX6_jointFor ∈ xW := xW_of (List.mem_append_right _ (List.mem_append_right _ (List.mem_append_right _ (List.mem_append_left _ (List.mem_of_getElem? (i := 42) rfl))))) rfl
set_option maxRecDepth 20000 in
theorem kw585 : Cond.code yX6_jointFor cX6_jointFor 1 (some .int) ∈ xW := xW_of (List.mem_append_right _ (List.mem_append_right _ (List.mem_append_right _ (List.mem_append_left _ (List.mem_of_getElem? (i := 43) rfl))))) rfl
set_option maxRecDepth 20000 in
theorem kw586 : Cond.methodLink "MeasureBook" 245 yX1_objection ∈ xW := xW_of (List.mem_append_right _ (List.mem_append_right _ (List.mem_append_right _ (List.mem_append_left _ (List.mem_of_getElem? (i := 44) rfl))))) rfl
set_option maxRecDepth 20000 in
theorem kw587 : Cond.instanceMethod yX1_objection ∈ xW := xW_of (List.mem_append_right _ (List.mem_append_right _ (List.mem_append_right _ (List.mem_append_left _ (List.mem_of_getElem? (i := 45) rfl))))) rfl
set_option maxRecDepth 20000 in
theorem kw588 : Cond.selects "MeasureBook$Book" yX1_objection yX1_objection ∈ xW := xW_of (List.mem_append_right _ (List.mem_append_right _ (List.mem_append_right _ (List.mem_append_left _ (List.mem_of_getElem? (i := 46) rfl))))) rfl
set_option maxRecDepth 20000 in
theorem kw589 : Cond.code yX1_objection cX1_objection 5 (some .int) ∈ xW := xW_of (List.mem_append_right _ (List.mem_append_right _ (List.mem_append_right _ (List.mem_append_left _ (List.mem_of_getElem? (i := 47) rfl))))) rfl
set_option maxRecDepth 20000 in
theorem kw590 : Cond.methodLink "MeasureBook$Book" 70 yX1_find ∈ xW := xW_of (List.mem_append_right _ (List.mem_append_right _ (List.mem_append_right _ (List.mem_append_left _ (List.mem_of_getElem? (i := 48) rfl))))) rfl
set_option maxRecDepth 20000 in
theorem kw591 : Cond.instanceMethod yX1_find ∈ xW := xW_of (List.mem_append_right _ (List.mem_append_right _ (List.mem_append_right _ (List.mem_append_left _ (List.mem_of_getElem? (i := 49) rfl))))) rfl
set_option maxRecDepth 20000 in
theorem kw592 : Cond.selects "MeasureBook$Book" yX1_find yX1_find ∈ xW := xW_of (List.mem_append_right _ (List.mem_append_right _ (List.mem_append_right _ (List.mem_append_left _ (List.mem_of_getElem? (i := 50) rfl))))) rfl
set_option maxRecDepth 20000 in
theorem kw593 : Cond.code yX1_find cX1_find 6 (some .int) ∈ xW := xW_of (List.mem_append_right _ (List.mem_append_right _ (List.mem_append_right _ (List.mem_append_left _ (List.mem_of_getElem? (i := 51) rfl))))) rfl
set_option maxRecDepth 20000 in
theorem kw594 : Cond.methodLink "MeasureBook$Book" 81 yX1_begins ∈ xW := xW_of (List.mem_append_right _ (List.mem_append_right _ (List.mem_append_right _ (List.mem_append_left _ (List.mem_of_getElem? (i := 52) rfl))))) rfl
set_option maxRecDepth 20000 in
theorem kw595 : Cond.instanceMethod yX1_begins ∈ xW := xW_of (List.mem_append_right _ (List.mem_append_right _ (List.mem_append_right _ (List.mem_append_left _ (List.mem_of_getElem? (i := 53) rfl))))) rfl
set_option maxRecDepth 20000 in
theorem kw596 : Cond.selects "MeasureBook$Book" yX1_begins yX1_begins ∈ xW := xW_of (List.mem_append_right _ (List.mem_append_right _ (List.mem_append_right _ (List.mem_append_left _ (List.mem_of_getElem? (i := 54) rfl))))) rfl
set_option maxRecDepth 20000 in
theorem kw597 : Cond.code yX1_begins cX1_begins 4 (some .boolean) ∈ xW := xW_of (List.mem_append_right _ (List.mem_append_right _ (List.mem_append_right _ (List.mem_append_left _ (List.mem_of_getElem? (i := 55) rfl))))) rfl
set_option maxRecDepth 20000 in
theorem kw598 : Cond.methodLink "MeasureBook" 248 yX1_add ∈ xW := xW_of (List.mem_append_right _ (List.mem_append_right _ (List.mem_append_right _ (List.mem_append_left _ (List.mem_of_getElem? (i := 56) rfl))))) rfl
set_option maxRecDepth 20000 in
theorem kw599 : Cond.instanceMethod yX1_add ∈ xW := xW_of (List.mem_append_right _ (List.mem_append_right _ (List.mem_append_right _ (List.mem_append_left _ (List.mem_of_getElem? (i := 57) rfl))))) rfl
set_option maxRecDepth 20000 in
theorem kw600 : Cond.selects "MeasureBook$Book" yX1_add yX1_add ∈ xW := xW_of (List.mem_append_right _ (List.mem_append_right _ (List.mem_append_right _ (List.mem_append_left _ (List.mem_of_getElem? (i := 58) rfl))))) rfl
set_option maxRecDepth 20000 in
theorem kw601 : Cond.code yX1_add cX1_add 6 none ∈ xW := xW_of (List.mem_append_right _ (List.mem_append_right _ (List.mem_append_right _ (List.mem_append_left _ (List.mem_of_getElem? (i := 59) rfl))))) rfl
set_option maxRecDepth 20000 in
theorem kw602 : Cond.methodLink "MeasureBook$Book" 74 yX1_codeEnd ∈ xW := xW_of (List.mem_append_right _ (List.mem_append_right _ (List.mem_append_right _ (List.mem_append_left _ (List.mem_of_getElem? (i := 60) rfl))))) rfl
set_option maxRecDepth 20000 in
theorem kw603 : Cond.methodLink "MeasureBook" 86 yX7_settle ∈ xW := xW_of (List.mem_append_right _ (List.mem_append_right _ (List.mem_append_right _ (List.mem_append_left _ (List.mem_of_getElem? (i := 61) rfl))))) rfl
set_option maxRecDepth 20000 in
theorem kw604 : Cond.instanceMethod yX7_settle ∈ xW := xW_of (List.mem_append_right _ (List.mem_append_right _ (List.mem_append_right _ (List.mem_append_left _ (List.mem_of_getElem? (i := 62) rfl))))) rfl
set_option maxRecDepth 20000 in
theorem kw605 : Cond.selects "MeasureBook$Reckoner" yX7_settle yX7_settle ∈ xW := xW_of (List.mem_append_right _ (List.mem_append_right _ (List.mem_append_right _ (List.mem_append_left _ (List.mem_of_getElem? (i := 63) rfl))))) rfl
set_option maxRecDepth 20000 in
theorem kw606 : Cond.code yX7_settle cX7_settle 6 (some .int) ∈ xW := xW_of (List.mem_append_right _ (List.mem_append_right _ (List.mem_append_right _ (List.mem_append_left _ (List.mem_of_getElem? (i := 64) rfl))))) rfl
set_option maxRecDepth 20000 in
theorem kw607 : Cond.methodLink "MeasureBook$Reckoner" 46 yX7_swapLedgers ∈ xW := xW_of (List.mem_append_right _ (List.mem_append_right _ (List.mem_append_right _ (List.mem_append_left _ (List.mem_of_getElem? (i := 65) rfl))))) rfl
set_option maxRecDepth 20000 in
theorem kw608 : Cond.instanceMethod yX7_swapLedgers ∈ xW := xW_of (List.mem_append_right _ (List.mem_append_right _ (List.mem_append_right _ (List.mem_append_left _ (List.mem_of_getElem? (i := 66) rfl))))) rfl
set_option maxRecDepth 20000 in
theorem kw609 : Cond.selects "MeasureBook$Reckoner" yX7_swapLedgers yX7_swapLedgers ∈ xW := xW_of (List.mem_append_right _ (List.mem_append_right _ (List.mem_append_right _ (List.mem_append_left _ (List.mem_of_getElem? (i := 67) rfl))))) rfl
set_option maxRecDepth 20000 in
theorem kw610 : Cond.code yX7_swapLedgers cX7_swapLedgers 2 none ∈ xW := xW_of (List.mem_append_right _ (List.mem_append_right _ (List.mem_append_right _ (List.mem_append_left _ (List.mem_of_getElem? (i := 68) rfl))))) rfl
set_option maxRecDepth 20000 in
theorem kw611 : Cond.methodLink "MeasureBook$Reckoner" 49 yX4_begin ∈ xW := xW_of (List.mem_append_right _ (List.mem_append_right _ (List.mem_append_right _ (List.mem_append_left _ (List.mem_of_getElem? (i := 69) rfl))))) rfl
set_option maxRecDepth 20000 in
theorem kw612 : Cond.instanceMethod yX4_begin ∈ xW := xW_of (List.mem_append_right _ (List.mem_append_right _ (List.mem_append_right _ (List.mem_append_left _ (List.mem_of_getElem? (i := 70) rfl))))) rfl
set_option maxRecDepth 20000 in
theorem kw613 : Cond.selects "MeasureBook$Ledger" yX4_begin yX4_begin ∈ xW := xW_of (List.mem_append_right _ (List.mem_append_right _ (List.mem_append_right _ (List.mem_append_left _ (List.mem_of_getElem? (i := 71) rfl))))) rfl
set_option maxRecDepth 20000 in
theorem kw614 : Cond.code yX4_begin cX4_begin 4 none ∈ xW := xW_of (List.mem_append_right _ (List.mem_append_right _ (List.mem_append_right _ (List.mem_append_left _ (List.mem_of_getElem? (i := 72) rfl))))) rfl
set_option maxRecDepth 20000 in
theorem kw615 : Cond.methodLink "MeasureBook$Ledger" 37 yX9_setBase ∈ xW := xW_of (List.mem_append_right _ (List.mem_append_right _ (List.mem_append_right _ (List.mem_append_left _ (List.mem_of_getElem? (i := 73) rfl))))) rfl
set_option maxRecDepth 20000 in
theorem kw616 : Cond.instanceMethod yX9_setBase ∈ xW := xW_of (List.mem_append_right _ (List.mem_append_right _ (List.mem_append_right _ (List.mem_append_left _ (List.mem_of_getElem? (i := 74) rfl))))) rfl
set_option maxRecDepth 20000 in
theorem kw617 : Cond.selects "MeasureBook$Value" yX9_setBase yX9_setBase ∈ xW := xW_of (List.mem_append_right _ (List.mem_append_right _ (List.mem_append_right _ (List.mem_append_left _ (List.mem_of_getElem? (i := 75) rfl))))) rfl
set_option maxRecDepth 20000 in
theorem kw618 : Cond.code yX9_setBase cX9_setBase 2 none ∈ xW := xW_of (List.mem_append_right _ (List.mem_append_right _ (List.mem_append_right _ (List.mem_append_left _ (List.mem_of_getElem? (i := 76) rfl))))) rfl
set_option maxRecDepth 20000 in
theorem kw619 : Cond.methodLink "MeasureBook$Value" 47 yX5_setSmall ∈ xW := xW_of (List.mem_append_right _ (List.mem_append_right _ (List.mem_append_right _ (List.mem_append_left _ (List.mem_of_getElem? (i := 77) rfl))))) rfl
set_option maxRecDepth 20000 in
theorem kw620 : Cond.instanceMethod yX5_setSmall ∈ xW := xW_of (List.mem_append_right _ (List.mem_append_right _ (List.mem_append_right _ (List.mem_append_left _ (List.mem_of_getElem? (i := 78) rfl))))) rfl
set_option maxRecDepth 20000 in
theorem kw621 : Cond.selects "MeasureBook$Natural" yX5_setSmall yX5_setSmall ∈ xW := xW_of (List.mem_append_right _ (List.mem_append_right _ (List.mem_append_right _ (List.mem_append_left _ (List.mem_of_getElem? (i := 79) rfl))))) rfl
set_option maxRecDepth 20000 in
theorem kw622 : Cond.code yX5_setSmall cX5_setSmall 2 none ∈ xW := xW_of (List.mem_append_right _ (List.mem_append_right _ (List.mem_append_right _ (List.mem_append_left _ (List.mem_of_getElem? (i := 80) rfl))))) rfl
set_option maxRecDepth 20000 in
theorem kw623 : Cond.constant "MeasureBook$Natural" 15 1073741823 ∈ xW := xW_of (List.mem_append_right _ (List.mem_append_right _ (List.mem_append_right _ (List.mem_append_left _ (List.mem_of_getElem? (i := 81) rfl))))) rfl
set_option maxRecDepth 20000 in
theorem kw624 : Cond.methodLink "MeasureBook$Value" 51 yX9_losePowers ∈ xW := xW_of (List.mem_append_right _ (List.mem_append_right _ (List.mem_append_right _ (List.mem_append_left _ (List.mem_of_getElem? (i := 82) rfl))))) rfl
set_option maxRecDepth 20000 in
theorem kw625 : Cond.instanceMethod yX9_losePowers ∈ xW := xW_of (List.mem_append_right _ (List.mem_append_right _ (List.mem_append_right _ (List.mem_append_left _ (List.mem_of_getElem? (i := 83) rfl))))) rfl
set_option maxRecDepth 20000 in
theorem kw626 : Cond.selects "MeasureBook$Value" yX9_losePowers yX9_losePowers ∈ xW := xW_of (List.mem_append_right _ (List.mem_append_right _ (List.mem_append_right _ (List.mem_append_left _ (List.mem_of_getElem? (i := 84) rfl))))) rfl
set_option maxRecDepth 20000 in
theorem kw627 : Cond.code yX9_losePowers cX9_losePowers 3 none ∈ xW := xW_of (List.mem_append_right _ (List.mem_append_right _ (List.mem_append_right _ (List.mem_append_left _ (List.mem_of_getElem? (i := 85) rfl))))) rfl
set_option maxRecDepth 20000 in
theorem kw628 : Cond.methodLink "MeasureBook$Value" 54 yJ9_max_7cf53 ∈ xW := xW_of (List.mem_append_right _ (List.mem_append_right _ (List.mem_append_right _ (List.mem_append_left _ (List.mem_of_getElem? (i := 86) rfl))))) rfl
set_option maxRecDepth 20000 in
theorem kw629 : Cond.methodLink "MeasureBook$Reckoner" 65 yX4_firstNew ∈ xW := xW_of (List.mem_append_right _ (List.mem_append_right _ (List.mem_append_right _ (List.mem_append_left _ (List.mem_of_getElem? (i := 87) rfl))))) rfl
set_option maxRecDepth 20000 in
theorem kw630 : Cond.instanceMethod yX4_firstNew ∈ xW := xW_of (List.mem_append_right _ (List.mem_append_right _ (List.mem_append_right _ (List.mem_append_left _ (List.mem_of_getElem? (i := 88) rfl))))) rfl
set_option maxRecDepth 20000 in
theorem kw631 : Cond.selects "MeasureBook$Ledger" yX4_firstNew yX4_firstNew ∈ xW := xW_of (List.mem_append_right _ (List.mem_append_right _ (List.mem_append_right _ (List.mem_append_left _ (List.mem_of_getElem? (i := 89) rfl))))) rfl
set_option maxRecDepth 20000 in
theorem kw632 : Cond.code yX4_firstNew cX4_firstNew 4 (some .int) ∈ xW := xW_of (List.mem_append_right _ (List.mem_append_right _ (List.mem_append_right _ (List.mem_append_left _ (List.mem_of_getElem? (i := 90) rfl))))) rfl
set_option maxRecDepth 20000 in
theorem kw633 : Cond.methodLink "MeasureBook$Reckoner" 69 yX7_enter ∈ xW := xW_of (List.mem_append_right _ (List.mem_append_right _ (List.mem_append_right _ (List.mem_append_left _ (List.mem_of_getElem? (i := 91) rfl))))) rfl
set_option maxRecDepth 20000 in
theorem kw634 : Cond.instanceMethod yX7_enter ∈ xW := xW_of (List.mem_append_right _ (List.mem_append_right _ (List.mem_append_right _ (List.mem_append_left _ (List.mem_of_getElem? (i := 92) rfl))))) rfl
set_option maxRecDepth 20000 in
theorem kw635 : Cond.selects "MeasureBook$Reckoner" yX7_enter yX7_enter ∈ xW := xW_of (List.mem_append_right _ (List.mem_append_right _ (List.mem_append_right _ (List.mem_append_left _ (List.mem_of_getElem? (i := 93) rfl))))) rfl
set_option maxRecDepth 20000 in
theorem kw636 : Cond.code yX7_enter cX7_enter 3 none ∈ xW := xW_of (List.mem_append_right _ (List.mem_append_right _ (List.mem_append_right _ (List.mem_append_left _ (List.mem_of_getElem? (i := 94) rfl))))) rfl
set_option maxRecDepth 20000 in
theorem kw637 : Cond.methodLink "MeasureBook$Reckoner" 90 yX1_has ∈ xW := xW_of (List.mem_append_right _ (List.mem_append_right _ (List.mem_append_right _ (List.mem_append_left _ (List.mem_of_getElem? (i := 95) rfl))))) rfl
set_option maxRecDepth 20000 in
theorem kw638 : Cond.instanceMethod yX1_has ∈ xW := xW_of (List.mem_append_right _ (List.mem_append_right _ (List.mem_append_right _ (List.mem_append_left _ (List.mem_of_getElem? (i := 96) rfl))))) rfl
set_option maxRecDepth 20000 in
theorem kw639 : Cond.selects "MeasureBook$Book" yX1_has yX1_has ∈ xW := xW_of (List.mem_append_right _ (List.mem_append_right _ (List.mem_append_right _ (List.mem_append_left _ (List.mem_of_getElem? (i := 97) rfl))))) rfl
set_option maxRecDepth 20000 in
theorem kw640 : Cond.code yX1_has cX1_has 2 (some .boolean) ∈ xW := xW_of (List.mem_append_right _ (List.mem_append_right _ (List.mem_append_right _ (List.mem_append_left _ (List.mem_of_getElem? (i := 98) rfl))))) rfl
set_option maxRecDepth 20000 in
theorem kw641 : Cond.methodLink "MeasureBook$Reckoner" 76 yX7_run ∈ xW := xW_of (List.mem_append_right _ (List.mem_append_right _ (List.mem_append_right _ (List.mem_append_left _ (List.mem_of_getElem? (i := 99) rfl))))) rfl
set_option maxRecDepth 20000 in
theorem kw642 : Cond.instanceMethod yX7_run ∈ xW := xW_of (List.mem_append_right _ (List.mem_append_right _ (List.mem_append_right _ (List.mem_append_left _ (List.mem_of_getElem? (i := 100) rfl))))) rfl
set_option maxRecDepth 20000 in
theorem kw643 : Cond.selects "MeasureBook$Reckoner" yX7_run yX7_run ∈ xW := xW_of (List.mem_append_right _ (List.mem_append_right _ (List.mem_append_right _ (List.mem_append_left _ (List.mem_of_getElem? (i := 101) rfl))))) rfl
set_option maxRecDepth 20000 in
theorem kw644 : Cond.code yX7_run cX7_run 11 (some .int) ∈ xW := xW_of (List.mem_append_right _ (List.mem_append_right _ (List.mem_append_right _ (List.mem_append_left _ (List.mem_of_getElem? (i := 102) rfl))))) rfl
set_option maxRecDepth 20000 in
theorem kw645 : Cond.methodLink "MeasureBook$Reckoner" 121 yJ9_max_7cf53 ∈ xW := xW_of (List.mem_append_right _ (List.mem_append_right _ (List.mem_append_right _ (List.mem_append_left _ (List.mem_of_getElem? (i := 103) rfl))))) rfl
set_option maxRecDepth 20000 in
theorem kw646 : Cond.methodLink "MeasureBook$Reckoner" 140 yX1_findMeaning ∈ xW := xW_of (List.mem_append_right _ (List.mem_append_right _ (List.mem_append_right _ (List.mem_append_left _ (List.mem_of_getElem? (i := 104) rfl))))) rfl
set_option maxRecDepth 20000 in
theorem kw647 : Cond.instanceMethod yX1_findMeaning ∈ xW := xW_of (List.mem_append_right _ (List.mem_append_right _ (List.mem_append_right _ (List.mem_append_left _ (List.mem_of_getElem? (i := 105) rfl))))) rfl
set_option maxRecDepth 20000 in
theorem kw648 : Cond.selects "MeasureBook$Book" yX1_findMeaning yX1_findMeaning ∈ xW := xW_of (List.mem_append_right _ (List.mem_append_right _ (List.mem_append_right _ (List.mem_append_left _ (List.mem_of_getElem? (i := 106) rfl))))) rfl
set_option maxRecDepth 20000 in
theorem kw649 : Cond.code yX1_findMeaning cX1_findMeaning 7 none ∈ xW := xW_of (List.mem_append_right _ (List.mem_append_right _ (List.mem_append_right _ (List.mem_append_left _ (List.mem_of_getElem? (i := 107) rfl))))) rfl
set_option maxRecDepth 20000 in
theorem kw650 : Cond.methodLink "MeasureBook$Book" 85 yX1_findThing ∈ xW := xW_of (List.mem_append_right _ (List.mem_append_right _ (List.mem_append_right _ (List.mem_append_left _ (List.mem_of_getElem? (i := 108) rfl))))) rfl
set_option maxRecDepth 20000 in
theorem kw651 : Cond.instanceMethod yX1_findThing ∈ xW := xW_of (List.mem_append_right _ (List.mem_append_right _ (List.mem_append_right _ (List.mem_append_left _ (List.mem_of_getElem? (i := 109) rfl))))) rfl
set_option maxRecDepth 20000 in
theorem kw652 : Cond.selects "MeasureBook$Book" yX1_findThing yX1_findThing ∈ xW := xW_of (List.mem_append_right _ (List.mem_append_right _ (List.mem_append_right _ (List.mem_append_left _ (List.mem_of_getElem? (i := 110) rfl))))) rfl
set_option maxRecDepth 20000 in
theorem kw653 : Cond.code yX1_findThing cX1_findThing 4 (some .int) ∈ xW := xW_of (List.mem_append_right _ (List.mem_append_right _ (List.mem_append_right _ (List.mem_append_left _ (List.mem_of_getElem? (i := 111) rfl))))) rfl
set_option maxRecDepth 20000 in
theorem kw654 : Cond.methodLink "MeasureBook$Reckoner" 150 yX7_firstNeeded ∈ xW := xW_of (List.mem_append_right _ (List.mem_append_right _ (List.mem_append_right _ (List.mem_append_left _ (List.mem_of_getElem? (i := 112) rfl))))) rfl
set_option maxRecDepth 20000 in
theorem kw655 : Cond.instanceMethod yX7_firstNeeded ∈ xW := xW_of (List.mem_append_right _ (List.mem_append_right _ (List.mem_append_right _ (List.mem_append_left _ (List.mem_of_getElem? (i := 113) rfl))))) rfl
set_option maxRecDepth 20000 in
theorem kw656 : Cond.selects "MeasureBook$Reckoner" yX7_firstNeeded yX7_firstNeeded ∈ xW := xW_of (List.mem_append_right _ (List.mem_append_right _ (List.mem_append_right _ (List.mem_append_left _ (List.mem_of_getElem? (i := 114) rfl))))) rfl
set_option maxRecDepth 20000 in
theorem kw657 : Cond.code yX7_firstNeeded cX7_firstNeeded 3 (some .int) ∈ xW := xW_of (List.mem_append_right _ (List.mem_append_right _ (List.mem_append_right _ (List.mem_append_left _ (List.mem_of_getElem? (i := 115) rfl))))) rfl
set_option maxRecDepth 20000 in
theorem kw658 : Cond.methodLink "MeasureBook$Reckoner" 168 yX7_faultOfName ∈ xW := xW_of (List.mem_append_right _ (List.mem_append_right _ (List.mem_append_right _ (List.mem_append_left _ (List.mem_of_getElem? (i := 116) rfl))))) rfl
set_option maxRecDepth 20000 in
theorem kw659 : Cond.instanceMethod yX7_faultOfName ∈ xW := xW_of (List.mem_append_right _ (List.mem_append_right _ (List.mem_append_right _ (List.mem_append_left _ (List.mem_of_getElem? (i := 117) rfl))))) rfl
set_option maxRecDepth 20000 in
theorem kw660 : Cond.selects "MeasureBook$Reckoner" yX7_faultOfName yX7_faultOfName ∈ xW := xW_of (List.mem_append_right _ (List.mem_append_right _ (List.mem_append_right _ (List.mem_append_left _ (List.mem_of_getElem? (i := 118) rfl))))) rfl
set_option maxRecDepth 20000 in
theorem kw661 : Cond.code yX7_faultOfName cX7_faultOfName 2 (some .int) ∈ xW := xW_of (List.mem_append_right _ (List.mem_append_right _ (List.mem_append_right _ (List.mem_append_left _ (List.mem_of_getElem? (i := 119) rfl))))) rfl
set_option maxRecDepth 20000 in
theorem kw662 : Cond.methodLink "MeasureBook$Reckoner" 153 yX7_faultOfMeaning ∈ xW := xW_of (List.mem_append_right _ (List.mem_append_right _ (List.mem_append_right _ (List.mem_append_left _ (List.mem_of_getElem? (i := 120) rfl))))) rfl
set_option maxRecDepth 20000 in
theorem kw663 : Cond.instanceMethod yX7_faultOfMeaning ∈ xW := xW_of (List.mem_append_right _ (List.mem_append_right _ (List.mem_append_right _ (List.mem_append_left _ (List.mem_of_getElem? (i := 121) rfl))))) rfl
set_option maxRecDepth 20000 in
theorem kw664 : Cond.selects "MeasureBook$Reckoner" yX7_faultOfMeaning yX7_faultOfMeaning ∈ xW := xW_of (List.mem_append_right _ (List.mem_append_right _ (List.mem_append_right _ (List.mem_append_left _ (List.mem_of_getElem? (i := 122) rfl))))) rfl
set_option maxRecDepth 20000 in
theorem kw665 : Cond.code yX7_faultOfMeaning cX7_faultOfMeaning 4 (some .int) ∈ xW := xW_of (List.mem_append_right _ (List.mem_append_right _ (List.mem_append_right _ (List.mem_append_left _ (List.mem_of_getElem? (i := 123) rfl))))) rfl
set_option maxRecDepth 20000 in
theorem kw666 : Cond.methodLink "MeasureBook$Reckoner" 106 yX7_slot ∈ xW := xW_of (List.mem_append_right _ (List.mem_append_right _ (List.mem_append_right _ (List.mem_append_left _ (List.mem_of_getElem? (i := 124) rfl))))) rfl
set_option maxRecDepth 20000 in
theorem kw667 : Cond.instanceMethod yX7_slot ∈ xW := xW_of (List.mem_append_right _ (List.mem_append_right _ (List.mem_append_right _ (List.mem_append_left _ (List.mem_of_getElem? (i := 125) rfl))))) rfl
set_option maxRecDepth 20000 in
theorem kw668 : Cond.selects "MeasureBook$Reckoner" yX7_slot yX7_slot ∈ xW := xW_of (List.mem_append_right _ (List.mem_append_right _ (List.mem_append_right _ (List.mem_append_left _ (List.mem_of_getElem? (i := 126) rfl))))) rfl
set_option maxRecDepth 20000 in
theorem kw669 : Cond.code yX7_slot cX7_slot 3 (some (.object "MeasureBook$Value")) ∈ xW := xW_of (List.mem_append_right _ (List.mem_append_right _ (List.mem_append_right _ (List.mem_append_left _ (List.mem_of_getElem? (i := 127) rfl))))) rfl
set_option maxRecDepth 20000 in
theorem kw670 : Cond.methodLink "MeasureBook$Reckoner" 171 yJ9_min_7cf53 ∈ xW := xW_of (List.mem_append_right _ (List.mem_append_right _ (List.mem_append_right _ (List.mem_append_left _ (List.mem_of_getElem? (i := 128) rfl))))) rfl
set_option maxRecDepth 20000 in
theorem kw671 : Cond.methodLink "MeasureBook$Reckoner" 174 yX9_init ∈ xW := xW_of (List.mem_append_right _ (List.mem_append_right _ (List.mem_append_right _ (List.mem_append_left _ (List.mem_of_getElem? (i := 129) rfl))))) rfl
set_option maxRecDepth 20000 in
theorem kw672 : Cond.methodLink "MeasureBook$Reckoner" 110 yX9_copy ∈ xW := xW_of (List.mem_append_right _ (List.mem_append_right _ (List.mem_append_right _ (List.mem_append_left _ (List.mem_of_getElem? (i := 130) rfl))))) rfl
set_option maxRecDepth 20000 in
theorem kw673 : Cond.instanceMethod yX9_copy ∈ xW := xW_of (List.mem_append_right _ (List.mem_append_right _ (List.mem_append_right _ (List.mem_append_left _ (List.mem_of_getElem? (i := 131) rfl))))) rfl
set_option maxRecDepth 20000 in
theorem kw674 : Cond.selects "MeasureBook$Value" yX9_copy yX9_copy ∈ xW := xW_of (List.mem_append_right _ (List.mem_append_right _ (List.mem_append_right _ (List.mem_append_left _ (List.mem_of_getElem? (i := 132) rfl))))) rfl
set_option maxRecDepth 20000 in
theorem kw675 : Cond.code yX9_copy cX9_copy 2 none ∈ xW := xW_of (List.mem_append_right _ (List.mem_append_right _ (List.mem_append_right _ (List.mem_append_left _ (List.mem_of_getElem? (i := 133) rfl))))) rfl
set_option maxRecDepth 20000 in
theorem kw676 : Cond.methodLink "MeasureBook$Value" 37 yX5_copy ∈ xW := xW_of (List.mem_append_right _ (List.mem_append_right _ (List.mem_append_right _ (List.mem_append_left _ (List.mem_of_getElem? (i := 134) rfl))))) rfl
set_option maxRecDepth 20000 in
theorem kw677 : Cond.instanceMethod yX5_copy ∈ xW := xW_of (List.mem_append_right _ (List.mem_append_right _ (List.mem_append_right _ (List.mem_append_left _ (List.mem_of_getElem? (i := 135) rfl))))) rfl
set_option maxRecDepth 20000 in
theorem kw678 : Cond.selects "MeasureBook$Natural" yX5_copy yX5_copy ∈ xW := xW_of (List.mem_append_right _ (List.mem_append_right _ (List.mem_append_right _ (List.mem_append_left _ (List.mem_of_getElem? (i := 136) rfl))))) rfl
set_option maxRecDepth 20000 in
theorem kw679 : Cond.code yX5_copy cX5_copy 2 none ∈ xW := xW_of (List.mem_append_right _ (List.mem_append_right _ (List.mem_append_right _ (List.mem_append_left _ (List.mem_of_getElem? (i := 137) rfl))))) rfl
set_option maxRecDepth 20000 in
theorem kw680 : Cond.methodLink "MeasureBook$Natural" 20 yJ9_min_7cf53 ∈ xW := xW_of (List.mem_append_right _ (List.mem_append_right _ (List.mem_append_right _ (List.mem_append_left _ (List.mem_of_getElem? (i := 138) rfl))))) rfl
set_option maxRecDepth 20000 in
theorem kw681 : Cond.methodLink "MeasureBook$Natural" 26 arraycopyName ∈ xW := xW_of (List.mem_append_right _ (List.mem_append_right _ (List.mem_append_right _ (List.mem_append_left _ (List.mem_of_getElem? (i := 139) rfl))))) rfl
set_option maxRecDepth 20000 in
theorem kw682 : Cond.methodLink "MeasureBook$Value" 41 arraycopyName ∈ xW := xW_of (List.mem_append_right _ (List.mem_append_right _ (List.mem_append_right _ (List.mem_append_left _ (List.mem_of_getElem? (i := 140) rfl))))) rfl
set_option maxRecDepth 20000 in
theorem kw683 : Cond.methodLink "MeasureBook$Reckoner" 156 yX0_act ∈ xW := xW_of (List.mem_append_right _ (List.mem_append_right _ (List.mem_append_right _ (List.mem_append_left _ (List.mem_of_getElem? (i := 141) rfl))))) rfl
set_option maxRecDepth 20000 in
theorem kw684 : Cond.instanceMethod yX0_act ∈ xW := xW_of (List.mem_append_right _ (List.mem_append_right _ (List.mem_append_right _ (List.mem_append_left _ (List.mem_of_getElem? (i := 142) rfl))))) rfl
set_option maxRecDepth 20000 in
theorem kw685 : Cond.selects "MeasureBook$Bench" yX0_act yX0_act ∈ xW := xW_of (List.mem_append_right _ (List.mem_append_right _ (List.mem_append_right _ (List.mem_append_left _ (List.mem_of_getElem? (i := 143) rfl))))) rfl
set_option maxRecDepth 20000 in
theorem kw686 : Cond.code yX0_act cX0_act 6 (some .int) ∈ xW := xW_of (List.mem_append_right _ (List.mem_append_right _ (List.mem_append_right _ (List.mem_append_left _ (List.mem_of_getElem? (i := 144) rfl))))) rfl
set_option maxRecDepth 20000 in
theorem kw687 : Cond.methodLink "MeasureBook$Bench" 48 yX0_addUp ∈ xW := xW_of (List.mem_append_right _ (List.mem_append_right _ (List.mem_append_right _ (List.mem_append_left _ (List.mem_of_getElem? (i := 145) rfl))))) rfl
set_option maxRecDepth 20000 in
theorem kw688 : Cond.instanceMethod yX0_addUp ∈ xW := xW_of (List.mem_append_right _ (List.mem_append_right _ (List.mem_append_right _ (List.mem_append_left _ (List.mem_of_getElem? (i := 146) rfl))))) rfl
set_option maxRecDepth 20000 in
theorem kw689 : Cond.selects "MeasureBook$Bench" yX0_addUp yX0_addUp ∈ xW := xW_of (List.mem_append_right _ (List.mem_append_right _ (List.mem_append_right _ (List.mem_append_left _ (List.mem_of_getElem? (i := 147) rfl))))) rfl
set_option maxRecDepth 20000 in
theorem kw690 : Cond.code yX0_addUp cX0_addUp 5 (some .int) ∈ xW := xW_of (List.mem_append_right _ (List.mem_append_right _ (List.mem_append_right _ (List.mem_append_left _ (List.mem_of_getElem? (i := 148) rfl))))) rfl
set_option maxRecDepth 20000 in
theorem kw691 : Cond.methodLink "MeasureBook$Bench" 56 yX9_hasPowersOf ∈ xW := xW_of (List.mem_append_right _ (List.mem_append_right _ (List.mem_append_right _ (List.mem_append_left _ (List.mem_of_getElem? (i := 149) rfl))))) rfl
set_option maxRecDepth 20000 in
theorem kw692 : Cond.instanceMethod yX9_hasPowersOf ∈ xW := xW_of (List.mem_append_right _ (List.mem_append_right _ (List.mem_append_right _ (List.mem_append_left _ (List.mem_of_getElem? (i := 150) rfl))))) rfl
set_option maxRecDepth 20000 in
theorem kw693 : Cond.selects "MeasureBook$Value" yX9_hasPowersOf yX9_hasPowersOf ∈ xW := xW_of (List.mem_append_right _ (List.mem_append_right _ (List.mem_append_right _ (List.mem_append_left _ (List.mem_of_getElem? (i := 151) rfl))))) rfl
set_option maxRecDepth 20000 in
theorem kw694 : Cond.code yX9_hasPowersOf cX9_hasPowersOf 3 (some .boolean) ∈ xW := xW_of (List.mem_append_right _ (List.mem_append_right _ (List.mem_append_right _ (List.mem_append_left _ (List.mem_of_getElem? (i := 152) rfl))))) rfl
set_option maxRecDepth 20000 in
theorem kw695 : Cond.methodLink "MeasureBook$Bench" 76 yX5_setProduct ∈ xW := xW_of (List.mem_append_right _ (List.mem_append_right _ (List.mem_append_right _ (List.mem_append_left _ (List.mem_of_getElem? (i := 153) rfl))))) rfl
set_option maxRecDepth 20000 in
theorem kw696 : Cond.instanceMethod yX5_setProduct ∈ xW := xW_of (List.mem_append_right _ (List.mem_append_right _ (List.mem_append_right _ (List.mem_append_left _ (List.mem_of_getElem? (i := 154) rfl))))) rfl
set_option maxRecDepth 20000 in
theorem kw697 : Cond.selects "MeasureBook$Natural" yX5_setProduct yX5_setProduct ∈ xW := xW_of (List.mem_append_right _ (List.mem_append_right _ (List.mem_append_right _ (List.mem_append_left _ (List.mem_of_getElem? (i := 155) rfl))))) rfl
set_option maxRecDepth 20000 in
theorem kw698 : Cond.code yX5_setProduct cX5_setProduct 10 none ∈ xW := xW_of (List.mem_append_right _ (List.mem_append_right _ (List.mem_append_right _ (List.mem_append_left _ (List.mem_of_getElem? (i := 156) rfl))))) rfl
set_option maxRecDepth 20000 in
theorem kw699 : Cond.methodLink "MeasureBook$Natural" 50 yJ7_fill_fda19 ∈ xW := xW_of (List.mem_append_right _ (List.mem_append_right _ (List.mem_append_right _ (List.mem_append_left _ (List.mem_of_getElem? (i := 157) rfl))))) rfl
set_option maxRecDepth 20000 in
theorem kw700 : Cond.static yJ7_fill_fda19 ∈ xW := xW_of (List.mem_append_right _ (List.mem_append_right _ (List.mem_append_right _ (List.mem_append_left _ (List.mem_of_getElem? (i := 158) rfl))))) rfl
set_option maxRecDepth 20000 in
theorem kw701 : Cond.code yJ7_fill_fda19 cJ7_fill_fda19 5 none ∈ xW := xW_of (List.mem_append_right _ (List.mem_append_right _ (List.mem_append_right _ (List.mem_append_left _ (List.mem_of_getElem? (i := 159) rfl))))) rfl
set_option maxRecDepth 20000 in
theorem kw702 : Cond.methodLink "java/util/Arrays" 13 yJ7_rangeCheck_23922 ∈ xW := xW_of (List.mem_append_right _ (List.mem_append_right _ (List.mem_append_right _ (List.mem_append_left _ (List.mem_of_getElem? (i := 160) rfl))))) rfl
set_option maxRecDepth 20000 in
theorem kw703 : Cond.static yJ7_rangeCheck_23922 ∈ xW := xW_of (List.mem_append_right _ (List.mem_append_right _ (List.mem_append_right _ (List.mem_append_left _ (List.mem_of_getElem? (i := 161) rfl))))) rfl
set_option maxRecDepth 20000 in
theorem kw704 : Cond.code yJ7_rangeCheck_23922 cJ7_rangeCheck_23922 3 none ∈ xW := xW_of (List.mem_append_right _ (List.mem_append_right _ (List.mem_append_right _ (List.mem_append_left _ (List.mem_of_getElem? (i := 162) rfl))))) rfl
set_option maxRecDepth 20000 in
theorem kw705 : Cond.constantLong "MeasureBook$Natural" 38 1073741823 ∈ xW := xW_of (List.mem_append_right _ (List.mem_append_right _ (List.mem_append_right _ (List.mem_append_left _ (List.mem_of_getElem? (i := 163) rfl))))) rfl
set_option maxRecDepth 20000 in
theorem kw706 : Cond.methodLink "MeasureBook$Natural" 47 yX5_trim ∈ xW := xW_of (List.mem_append_right _ (List.mem_append_right _ (List.mem_append_right _ (List.mem_append_left _ (List.mem_of_getElem? (i := 164) rfl))))) rfl
set_option maxRecDepth 20000 in
theorem kw707 : Cond.instanceMethod yX5_trim ∈ xW := xW_of (List.mem_append_right _ (List.mem_append_right _ (List.mem_append_right _ (List.mem_append_left _ (List.mem_of_getElem? (i := 165) rfl))))) rfl
set_option maxRecDepth 20000 in
theorem kw708 : Cond.selects "MeasureBook$Natural" yX5_trim yX5_trim ∈ xW := xW_of (List.mem_append_right _ (List.mem_append_right _ (List.mem_append_right _ (List.mem_append_left _ (List.mem_of_getElem? (i := 166) rfl))))) rfl
set_option maxRecDepth 20000 in
theorem kw709 : Cond.code yX5_trim cX5_trim 1 none ∈ xW := xW_of (List.mem_append_right _ (List.mem_append_right _ (List.mem_append_right _ (List.mem_append_left _ (List.mem_of_getElem? (i := 167) rfl))))) rfl
set_option maxRecDepth 20000 in
theorem kw710 : Cond.methodLink "MeasureBook$Bench" 80 yX5_setSum ∈ xW := xW_of (List.mem_append_right _ (List.mem_append_right _ (List.mem_append_right _ (List.mem_append_left _ (List.mem_of_getElem? (i := 168) rfl))))) rfl
set_option maxRecDepth 20000 in
theorem kw711 : Cond.instanceMethod yX5_setSum ∈ xW := xW_of (List.mem_append_right _ (List.mem_append_right _ (List.mem_append_right _ (List.mem_append_left _ (List.mem_of_getElem? (i := 169) rfl))))) rfl
set_option maxRecDepth 20000 in
theorem kw712 : Cond.selects "MeasureBook$Natural" yX5_setSum yX5_setSum ∈ xW := xW_of (List.mem_append_right _ (List.mem_append_right _ (List.mem_append_right _ (List.mem_append_left _ (List.mem_of_getElem? (i := 170) rfl))))) rfl
set_option maxRecDepth 20000 in
theorem kw713 : Cond.code yX5_setSum cX5_setSum 6 none ∈ xW := xW_of (List.mem_append_right _ (List.mem_append_right _ (List.mem_append_right _ (List.mem_append_left _ (List.mem_of_getElem? (i := 171) rfl))))) rfl
set_option maxRecDepth 20000 in
theorem kw714 : Cond.methodLink "MeasureBook$Natural" 56 yJ9_max_7cf53 ∈ xW := xW_of (List.mem_append_right _ (List.mem_append_right _ (List.mem_append_right _ (List.mem_append_left _ (List.mem_of_getElem? (i := 172) rfl))))) rfl
set_option maxRecDepth 20000 in
theorem kw715 : Cond.methodLink "MeasureBook$Bench" 84 yX5_compare ∈ xW := xW_of (List.mem_append_right _ (List.mem_append_right _ (List.mem_append_right _ (List.mem_append_left _ (List.mem_of_getElem? (i := 173) rfl))))) rfl
set_option maxRecDepth 20000 in
theorem kw716 : Cond.instanceMethod yX5_compare ∈ xW := xW_of (List.mem_append_right _ (List.mem_append_right _ (List.mem_append_right _ (List.mem_append_left _ (List.mem_of_getElem? (i := 174) rfl))))) rfl
set_option maxRecDepth 20000 in
theorem kw717 : Cond.selects "MeasureBook$Natural" yX5_compare yX5_compare ∈ xW := xW_of (List.mem_append_right _ (List.mem_append_right _ (List.mem_append_right _ (List.mem_append_left _ (List.mem_of_getElem? (i := 175) rfl))))) rfl
set_option maxRecDepth 20000 in
theorem kw718 : Cond.code yX5_compare cX5_compare 3 (some .int) ∈ xW := xW_of (List.mem_append_right _ (List.mem_append_right _ (List.mem_append_right _ (List.mem_append_left _ (List.mem_of_getElem? (i := 176) rfl))))) rfl
set_option maxRecDepth 20000 in
theorem kw719 : Cond.methodLink "MeasureBook$Bench" 88 yX5_setDifference ∈ xW := xW_of (List.mem_append_right _ (List.mem_append_right _ (List.mem_append_right _ (List.mem_append_left _ (List.mem_of_getElem? (i := 177) rfl))))) rfl
set_option maxRecDepth 20000 in
theorem kw720 : Cond.instanceMethod yX5_setDifference ∈ xW := xW_of (List.mem_append_right _ (List.mem_append_right _ (List.mem_append_right _ (List.mem_append_left _ (List.mem_of_getElem? (i := 178) rfl))))) rfl
set_option maxRecDepth 20000 in
theorem kw721 : Cond.selects "MeasureBook$Natural" yX5_setDifference yX5_setDifference ∈ xW := xW_of (List.mem_append_right _ (List.mem_append_right _ (List.mem_append_right _ (List.mem_append_left _ (List.mem_of_getElem? (i := 179) rfl))))) rfl
set_option maxRecDepth 20000 in
theorem kw722 : Cond.code yX5_setDifference cX5_setDifference 6 none ∈ xW := xW_of (List.mem_append_right _ (List.mem_append_right _ (List.mem_append_right _ (List.mem_append_left _ (List.mem_of_getElem? (i := 180) rfl))))) rfl
set_option maxRecDepth 20000 in
theorem kw723 : Cond.methodLink "MeasureBook$Bench" 52 yX0_multiply ∈ xW := xW_of (List.mem_append_right _ (List.mem_append_right _ (List.mem_append_right _ (List.mem_append_left _ (List.mem_of_getElem? (i := 181) rfl))))) rfl
set_option maxRecDepth 20000 in
theorem kw724 : Cond.instanceMethod yX0_multiply ∈ xW := xW_of (List.mem_append_right _ (List.mem_append_right _ (List.mem_append_right _ (List.mem_append_left _ (List.mem_of_getElem? (i := 182) rfl))))) rfl
set_option maxRecDepth 20000 in
theorem kw725 : Cond.selects "MeasureBook$Bench" yX0_multiply yX0_multiply ∈ xW := xW_of (List.mem_append_right _ (List.mem_append_right _ (List.mem_append_right _ (List.mem_append_left _ (List.mem_of_getElem? (i := 183) rfl))))) rfl
set_option maxRecDepth 20000 in
theorem kw726 : Cond.code yX0_multiply cX0_multiply 3 (some .int) ∈ xW := xW_of (List.mem_append_right _ (List.mem_append_right _ (List.mem_append_right _ (List.mem_append_left _ (List.mem_of_getElem? (i := 184) rfl))))) rfl
set_option maxRecDepth 20000 in
theorem kw727 : Cond.methodLink "MeasureBook$Bench" 91 yX9_combinePowers ∈ xW := xW_of (List.mem_append_right _ (List.mem_append_right _ (List.mem_append_right _ (List.mem_append_left _ (List.mem_of_getElem? (i := 185) rfl))))) rfl
set_option maxRecDepth 20000 in
theorem kw728 : Cond.instanceMethod yX9_combinePowers ∈ xW := xW_of (List.mem_append_right _ (List.mem_append_right _ (List.mem_append_right _ (List.mem_append_left _ (List.mem_of_getElem? (i := 186) rfl))))) rfl
set_option maxRecDepth 20000 in
theorem kw729 : Cond.selects "MeasureBook$Value" yX9_combinePowers yX9_combinePowers ∈ xW := xW_of (List.mem_append_right _ (List.mem_append_right _ (List.mem_append_right _ (List.mem_append_left _ (List.mem_of_getElem? (i := 187) rfl))))) rfl
set_option maxRecDepth 20000 in
theorem kw730 : Cond.code yX9_combinePowers cX9_combinePowers 5 (some .boolean) ∈ xW := xW_of (List.mem_append_right _ (List.mem_append_right _ (List.mem_append_right _ (List.mem_append_left _ (List.mem_of_getElem? (i := 188) rfl))))) rfl
set_option maxRecDepth 20000 in
theorem kw731 : Cond.methodLink "MeasureBook$Bench" 60 yX0_divide ∈ xW := xW_of (List.mem_append_right _ (List.mem_append_right _ (List.mem_append_right _ (List.mem_append_left _ (List.mem_of_getElem? (i := 189) rfl))))) rfl
set_option maxRecDepth 20000 in
theorem kw732 : Cond.instanceMethod yX0_divide ∈ xW := xW_of (List.mem_append_right _ (List.mem_append_right _ (List.mem_append_right _ (List.mem_append_left _ (List.mem_of_getElem? (i := 190) rfl))))) rfl
set_option maxRecDepth 20000 in
theorem kw733 : Cond.selects "MeasureBook$Bench" yX0_divide yX0_divide ∈ xW := xW_of (List.mem_append_right _ (List.mem_append_right _ (List.mem_append_right _ (List.mem_append_left _ (List.mem_of_getElem? (i := 191) rfl))))) rfl
set_option maxRecDepth 20000 in
theorem kw734 : Cond.code yX0_divide cX0_divide 3 (some .int) ∈ xW := xW_of (List.mem_append_right _ (List.mem_append_right _ (List.mem_append_right _ (List.mem_append_left _ (List.mem_of_getElem? (i := 192) rfl))))) rfl
set_option maxRecDepth 20000 in
theorem kw735 : Cond.methodLink "MeasureBook$Bench" 63 yX0_raise ∈ xW := xW_of (List.mem_append_right _ (List.mem_append_right _ (List.mem_append_right _ (List.mem_append_left _ (List.mem_of_getElem? (i := 193) rfl))))) rfl
set_option maxRecDepth 20000 in
theorem kw736 : Cond.instanceMethod yX0_raise ∈ xW := xW_of (List.mem_append_right _ (List.mem_append_right _ (List.mem_append_right _ (List.mem_append_left _ (List.mem_of_getElem? (i := 194) rfl))))) rfl
set_option maxRecDepth 20000 in
theorem kw737 : Cond.selects "MeasureBook$Bench" yX0_raise yX0_raise ∈ xW := xW_of (List.mem_append_right _ (List.mem_append_right _ (List.mem_append_right _ (List.mem_append_left _ (List.mem_of_getElem? (i := 195) rfl))))) rfl
set_option maxRecDepth 20000 in
theorem kw738 : Cond.code yX0_raise cX0_raise 4 (some .int) ∈ xW := xW_of (List.mem_append_right _ (List.mem_append_right _ (List.mem_append_right _ (List.mem_append_left _ (List.mem_of_getElem? (i := 196) rfl))))) rfl
set_option maxRecDepth 20000 in
theorem kw739 : Cond.methodLink "MeasureBook$Bench" 95 yJ9_abs_0f7a4 ∈ xW := xW_of (List.mem_append_right _ (List.mem_append_right _ (List.mem_append_right _ (List.mem_append_left _ (List.mem_of_getElem? (i := 197) rfl))))) rfl
set_option maxRecDepth 20000 in
theorem kw740 : Cond.static yJ9_abs_0f7a4 ∈ xW := xW_of (List.mem_append_right _ (List.mem_append_right _ (List.mem_append_right _ (List.mem_append_left _ (List.mem_of_getElem? (i := 198) rfl))))) rfl
set_option maxRecDepth 20000 in
theorem kw741 : Cond.code yJ9_abs_0f7a4 cJ9_abs_0f7a4 1 (some .int) ∈ xW := xW_of (List.mem_append_right _ (List.mem_append_right _ (List.mem_append_right _ (List.mem_append_left _ (List.mem_of_getElem? (i := 199) rfl))))) rfl
set_option maxRecDepth 20000 in
theorem kw742 : Cond.methodLink "MeasureBook$Bench" 101 yX0_setRaised ∈ xW := xW_of (List.mem_append_right _ (List.mem_append_right _ (List.mem_append_right _ (List.mem_append_left _ (List.mem_of_getElem? (i := 200) rfl))))) rfl
set_option maxRecDepth 20000 in
theorem kw743 : Cond.instanceMethod yX0_setRaised ∈ xW := xW_of (List.mem_append_right _ (List.mem_append_right _ (List.mem_append_right _ (List.mem_append_left _ (List.mem_of_getElem? (i := 201) rfl))))) rfl
set_option maxRecDepth 20000 in
theorem kw744 : Cond.selects "MeasureBook$Bench" yX0_setRaised yX0_setRaised ∈ xW := xW_of (List.mem_append_right _ (List.mem_append_right _ (List.mem_append_right _ (List.mem_append_left _ (List.mem_of_getElem? (i := 202) rfl))))) rfl
set_option maxRecDepth 20000 in
theorem kw745 : Cond.code yX0_setRaised cX0_setRaised 5 none ∈ xW := xW_of (List.mem_append_right _ (List.mem_append_right _ (List.mem_append_right _ (List.mem_append_left _ (List.mem_of_getElem? (i := 203) rfl))))) rfl
set_option maxRecDepth 20000 in
theorem kw746 : Cond.methodLink "MeasureBook$Bench" 105 yX5_setSmall ∈ xW := xW_of (List.mem_append_right _ (List.mem_append_right _ (List.mem_append_right _ (List.mem_append_left _ (List.mem_of_getElem? (i := 204) rfl))))) rfl
set_option maxRecDepth 20000 in
theorem kw747 : Cond.methodLink "MeasureBook$Bench" 109 yX5_bitLength ∈ xW := xW_of (List.mem_append_right _ (List.mem_append_right _ (List.mem_append_right _ (List.mem_append_left _ (List.mem_of_getElem? (i := 205) rfl))))) rfl
set_option maxRecDepth 20000 in
theorem kw748 : Cond.instanceMethod yX5_bitLength ∈ xW := xW_of (List.mem_append_right _ (List.mem_append_right _ (List.mem_append_right _ (List.mem_append_left _ (List.mem_of_getElem? (i := 206) rfl))))) rfl
set_option maxRecDepth 20000 in
theorem kw749 : Cond.selects "MeasureBook$Natural" yX5_bitLength yX5_bitLength ∈ xW := xW_of (List.mem_append_right _ (List.mem_append_right _ (List.mem_append_right _ (List.mem_append_left _ (List.mem_of_getElem? (i := 207) rfl))))) rfl
set_option maxRecDepth 20000 in
theorem kw750 : Cond.code yX5_bitLength cX5_bitLength 1 (some .int) ∈ xW := xW_of (List.mem_append_right _ (List.mem_append_right _ (List.mem_append_right _ (List.mem_append_left _ (List.mem_of_getElem? (i := 208) rfl))))) rfl
set_option maxRecDepth 20000 in
theorem kw751 : Cond.methodLink "MeasureBook$Natural" 32 yJ6_numberOfLeadingZeros_0f7a4 ∈ xW := xW_of (List.mem_append_right _ (List.mem_append_right _ (List.mem_append_right _ (List.mem_append_left _ (List.mem_of_getElem? (i := 209) rfl))))) rfl
set_option maxRecDepth 20000 in
theorem kw752 : Cond.static yJ6_numberOfLeadingZeros_0f7a4 ∈ xW := xW_of (List.mem_append_right _ (List.mem_append_right _ (List.mem_append_right _ (List.mem_append_left _ (List.mem_of_getElem? (i := 210) rfl))))) rfl
set_option maxRecDepth 20000 in
theorem kw753 : Cond.code yJ6_numberOfLeadingZeros_0f7a4 cJ6_numberOfLeadingZeros_0f7a4 2 (some .int) ∈ xW := xW_of (List.mem_append_right _ (List.mem_append_right _ (List.mem_append_right _ (List.mem_append_left _ (List.mem_of_getElem? (i := 211) rfl))))) rfl
set_option maxRecDepth 20000 in
theorem kw754 : Cond.constant "java/lang/Integer" 264 65536 ∈ xW := xW_of (List.mem_append_right _ (List.mem_append_right _ (List.mem_append_right _ (List.mem_append_left _ (List.mem_of_getElem? (i := 212) rfl))))) rfl
set_option maxRecDepth 20000 in
theorem kw755 : Cond.methodLink "MeasureBook$Bench" 113 yX5_copy ∈ xW := xW_of (List.mem_append_right _ (List.mem_append_right _ (List.mem_append_right _ (List.mem_append_left _ (List.mem_of_getElem? (i := 213) rfl))))) rfl
set_option maxRecDepth 20000 in
theorem kw756 : Cond.methodLink "MeasureBook$Bench" 67 yX0_reduce ∈ xW := xW_of (List.mem_append_right _ (List.mem_append_right _ (List.mem_append_right _ (List.mem_append_left _ (List.mem_of_getElem? (i := 214) rfl))))) rfl
set_option maxRecDepth 20000 in
theorem kw757 : Cond.instanceMethod yX0_reduce ∈ xW := xW_of (List.mem_append_right _ (List.mem_append_right _ (List.mem_append_right _ (List.mem_append_left _ (List.mem_of_getElem? (i := 215) rfl))))) rfl
set_option maxRecDepth 20000 in
theorem kw758 : Cond.selects "MeasureBook$Bench" yX0_reduce yX0_reduce ∈ xW := xW_of (List.mem_append_right _ (List.mem_append_right _ (List.mem_append_right _ (List.mem_append_left _ (List.mem_of_getElem? (i := 216) rfl))))) rfl
set_option maxRecDepth 20000 in
theorem kw759 : Cond.code yX0_reduce cX0_reduce 5 none ∈ xW := xW_of (List.mem_append_right _ (List.mem_append_right _ (List.mem_append_right _ (List.mem_append_left _ (List.mem_of_getElem? (i := 217) rfl))))) rfl
set_option maxRecDepth 20000 in
theorem kw760 : Cond.methodLink "MeasureBook$Bench" 141 yX5_isOne ∈ xW := xW_of (List.mem_append_right _ (List.mem_append_right _ (List.mem_append_right _ (List.mem_append_left _ (List.mem_of_getElem? (i := 218) rfl))))) rfl
set_option maxRecDepth 20000 in
theorem kw761 : Cond.instanceMethod yX5_isOne ∈ xW := xW_of (List.mem_append_right _ (List.mem_append_right _ (List.mem_append_right _ (List.mem_append_left _ (List.mem_of_getElem? (i := 219) rfl))))) rfl
set_option maxRecDepth 20000 in
theorem kw762 : Cond.selects "MeasureBook$Natural" yX5_isOne yX5_isOne ∈ xW := xW_of (List.mem_append_right _ (List.mem_append_right _ (List.mem_append_right _ (List.mem_append_left _ (List.mem_of_getElem? (i := 220) rfl))))) rfl
set_option maxRecDepth 20000 in
theorem kw763 : Cond.code yX5_isOne cX5_isOne 1 (some .boolean) ∈ xW := xW_of (List.mem_append_right _ (List.mem_append_right _ (List.mem_append_right _ (List.mem_append_left _ (List.mem_of_getElem? (i := 221) rfl))))) rfl
set_option maxRecDepth 20000 in
theorem kw764 : Cond.methodLink "MeasureBook$Bench" 145 yX0_splitBy ∈ xW := xW_of (List.mem_append_right _ (List.mem_append_right _ (List.mem_append_right _ (List.mem_append_left _ (List.mem_of_getElem? (i := 222) rfl))))) rfl
set_option maxRecDepth 20000 in
theorem kw765 : Cond.instanceMethod yX0_splitBy ∈ xW := xW_of (List.mem_append_right _ (List.mem_append_right _ (List.mem_append_right _ (List.mem_append_left _ (List.mem_of_getElem? (i := 223) rfl))))) rfl
set_option maxRecDepth 20000 in
theorem kw766 : Cond.selects "MeasureBook$Bench" yX0_splitBy yX0_splitBy ∈ xW := xW_of (List.mem_append_right _ (List.mem_append_right _ (List.mem_append_right _ (List.mem_append_left _ (List.mem_of_getElem? (i := 224) rfl))))) rfl
set_option maxRecDepth 20000 in
theorem kw767 : Cond.code yX0_splitBy cX0_splitBy 9 none ∈ xW := xW_of (List.mem_append_right _ (List.mem_append_right _ (List.mem_append_right _ (List.mem_append_left _ (List.mem_of_getElem? (i := 225) rfl))))) rfl
set_option maxRecDepth 20000 in
theorem kw768 : Cond.methodLink "MeasureBook$Bench" 151 yX5_divideSmall ∈ xW := xW_of (List.mem_append_right _ (List.mem_append_right _ (List.mem_append_right _ (List.mem_append_left _ (List.mem_of_getElem? (i := 226) rfl))))) rfl
set_option maxRecDepth 20000 in
theorem kw769 : Cond.instanceMethod yX5_divideSmall ∈ xW := xW_of (List.mem_append_right _ (List.mem_append_right _ (List.mem_append_right _ (List.mem_append_left _ (List.mem_of_getElem? (i := 227) rfl))))) rfl
set_option maxRecDepth 20000 in
theorem kw770 : Cond.selects "MeasureBook$Natural" yX5_divideSmall yX5_divideSmall ∈ xW := xW_of (List.mem_append_right _ (List.mem_append_right _ (List.mem_append_right _ (List.mem_append_left _ (List.mem_of_getElem? (i := 228) rfl))))) rfl
set_option maxRecDepth 20000 in
theorem kw771 : Cond.code yX5_divideSmall cX5_divideSmall 7 (some .int) ∈ xW := xW_of (List.mem_append_right _ (List.mem_append_right _ (List.mem_append_right _ (List.mem_append_left _ (List.mem_of_getElem? (i := 229) rfl))))) rfl
set_option maxRecDepth 20000 in
theorem kw772 : Cond.methodLink "MeasureBook$Bench" 154 yJ6_numberOfLeadingZeros_0f7a4 ∈ xW := xW_of (List.mem_append_right _ (List.mem_append_right _ (List.mem_append_right _ (List.mem_append_left _ (List.mem_of_getElem? (i := 230) rfl))))) rfl
set_option maxRecDepth 20000 in
theorem kw773 : Cond.methodLink "MeasureBook$Bench" 159 yX0_shiftUp ∈ xW := xW_of (List.mem_append_right _ (List.mem_append_right _ (List.mem_append_right _ (List.mem_append_left _ (List.mem_of_getElem? (i := 231) rfl))))) rfl
set_option maxRecDepth 20000 in
theorem kw774 : Cond.instanceMethod yX0_shiftUp ∈ xW := xW_of (List.mem_append_right _ (List.mem_append_right _ (List.mem_append_right _ (List.mem_append_left _ (List.mem_of_getElem? (i := 232) rfl))))) rfl
set_option maxRecDepth 20000 in
theorem kw775 : Cond.selects "MeasureBook$Bench" yX0_shiftUp yX0_shiftUp ∈ xW := xW_of (List.mem_append_right _ (List.mem_append_right _ (List.mem_append_right _ (List.mem_append_left _ (List.mem_of_getElem? (i := 233) rfl))))) rfl
set_option maxRecDepth 20000 in
theorem kw776 : Cond.code yX0_shiftUp cX0_shiftUp 7 none ∈ xW := xW_of (List.mem_append_right _ (List.mem_append_right _ (List.mem_append_right _ (List.mem_append_left _ (List.mem_of_getElem? (i := 234) rfl))))) rfl
set_option maxRecDepth 20000 in
theorem kw777 : Cond.constantLong "MeasureBook$Bench" 170 1073741823 ∈ xW := xW_of (List.mem_append_right _ (List.mem_append_right _ (List.mem_append_right _ (List.mem_append_left _ (List.mem_of_getElem? (i := 235) rfl))))) rfl
set_option maxRecDepth 20000 in
theorem kw778 : Cond.methodLink "MeasureBook$Bench" 163 yX0_takeOff ∈ xW := xW_of (List.mem_append_right _ (List.mem_append_right _ (List.mem_append_right _ (List.mem_append_left _ (List.mem_of_getElem? (i := 236) rfl))))) rfl
set_option maxRecDepth 20000 in
theorem kw779 : Cond.instanceMethod yX0_takeOff ∈ xW := xW_of (List.mem_append_right _ (List.mem_append_right _ (List.mem_append_right _ (List.mem_append_left _ (List.mem_of_getElem? (i := 237) rfl))))) rfl
set_option maxRecDepth 20000 in
theorem kw780 : Cond.selects "MeasureBook$Bench" yX0_takeOff yX0_takeOff ∈ xW := xW_of (List.mem_append_right _ (List.mem_append_right _ (List.mem_append_right _ (List.mem_append_left _ (List.mem_of_getElem? (i := 238) rfl))))) rfl
set_option maxRecDepth 20000 in
theorem kw781 : Cond.code yX0_takeOff cX0_takeOff 12 (some .int) ∈ xW := xW_of (List.mem_append_right _ (List.mem_append_right _ (List.mem_append_right _ (List.mem_append_left _ (List.mem_of_getElem? (i := 239) rfl))))) rfl
set_option maxRecDepth 20000 in
theorem kw782 : Cond.methodLink "MeasureBook$Bench" 172 yX0_subtractTimes ∈ xW := xW_of (List.mem_append_right _ (List.mem_append_right _ (List.mem_append_right _ (List.mem_append_right _ (List.mem_append_left _ (List.mem_of_getElem? (i := 0) rfl)))))) rfl
set_option maxRecDepth 20000 in
theorem kw783 : Cond.instanceMethod yX0_subtractTimes ∈ xW := xW_of (List.mem_append_right _ (List.mem_append_right _ (List.mem_append_right _ (List.mem_append_right _ (List.mem_append_left _ (List.mem_of_getElem? (i := 1) rfl)))))) rfl
set_option maxRecDepth 20000 in
theorem kw784 : Cond.selects "MeasureBook$Bench" yX0_subtractTimes yX0_subtractTimes ∈ xW := xW_of (List.mem_append_right _ (List.mem_append_right _ (List.mem_append_right _ (List.mem_append_right _ (List.mem_append_left _ (List.mem_of_getElem? (i := 2) rfl)))))) rfl
set_option maxRecDepth 20000 in
theorem kw785 : Cond.code yX0_subtractTimes cX0_subtractTimes 8 (some .long) ∈ xW := xW_of (List.mem_append_right _ (List.mem_append_right _ (List.mem_append_right _ (List.mem_append_right _ (List.mem_append_left _ (List.mem_of_getElem? (i := 3) rfl)))))) rfl
set_option maxRecDepth 20000 in
theorem kw786 : Cond.methodLink "MeasureBook$Bench" 176 yX0_addBack ∈ xW := xW_of (List.mem_append_right _ (List.mem_append_right _ (List.mem_append_right _ (List.mem_append_right _ (List.mem_append_left _ (List.mem_of_getElem? (i := 4) rfl)))))) rfl
set_option maxRecDepth 20000 in
theorem kw787 : Cond.instanceMethod yX0_addBack ∈ xW := xW_of (List.mem_append_right _ (List.mem_append_right _ (List.mem_append_right _ (List.mem_append_right _ (List.mem_append_left _ (List.mem_of_getElem? (i := 5) rfl)))))) rfl
set_option maxRecDepth 20000 in
theorem kw788 : Cond.selects "MeasureBook$Bench" yX0_addBack yX0_addBack ∈ xW := xW_of (List.mem_append_right _ (List.mem_append_right _ (List.mem_append_right _ (List.mem_append_right _ (List.mem_append_left _ (List.mem_of_getElem? (i := 6) rfl)))))) rfl
set_option maxRecDepth 20000 in
theorem kw789 : Cond.code yX0_addBack cX0_addBack 5 none ∈ xW := xW_of (List.mem_append_right _ (List.mem_append_right _ (List.mem_append_right _ (List.mem_append_right _ (List.mem_append_left _ (List.mem_of_getElem? (i := 7) rfl)))))) rfl
set_option maxRecDepth 20000 in
theorem kw790 : Cond.constant "MeasureBook$Bench" 169 1073741823 ∈ xW := xW_of (List.mem_append_right _ (List.mem_append_right _ (List.mem_append_right _ (List.mem_append_right _ (List.mem_append_left _ (List.mem_of_getElem? (i := 8) rfl)))))) rfl
set_option maxRecDepth 20000 in
theorem kw791 : Cond.methodLink "MeasureBook$Bench" 166 yX5_trim ∈ xW := xW_of (List.mem_append_right _ (List.mem_append_right _ (List.mem_append_right _ (List.mem_append_right _ (List.mem_append_left _ (List.mem_of_getElem? (i := 9) rfl)))))) rfl
set_option maxRecDepth 20000 in
theorem kw792 : Cond.methodLink "MeasureBook$Bench" 70 yX0_putInto ∈ xW := xW_of (List.mem_append_right _ (List.mem_append_right _ (List.mem_append_right _ (List.mem_append_right _ (List.mem_append_left _ (List.mem_of_getElem? (i := 10) rfl)))))) rfl
set_option maxRecDepth 20000 in
theorem kw793 : Cond.instanceMethod yX0_putInto ∈ xW := xW_of (List.mem_append_right _ (List.mem_append_right _ (List.mem_append_right _ (List.mem_append_right _ (List.mem_append_left _ (List.mem_of_getElem? (i := 11) rfl)))))) rfl
set_option maxRecDepth 20000 in
theorem kw794 : Cond.selects "MeasureBook$Bench" yX0_putInto yX0_putInto ∈ xW := xW_of (List.mem_append_right _ (List.mem_append_right _ (List.mem_append_right _ (List.mem_append_right _ (List.mem_append_left _ (List.mem_of_getElem? (i := 12) rfl)))))) rfl
set_option maxRecDepth 20000 in
theorem kw795 : Cond.code yX0_putInto cX0_putInto 2 (some .int) ∈ xW := xW_of (List.mem_append_right _ (List.mem_append_right _ (List.mem_append_right _ (List.mem_append_right _ (List.mem_append_left _ (List.mem_of_getElem? (i := 13) rfl)))))) rfl
set_option maxRecDepth 20000 in
theorem kw796 : Cond.methodLink "MeasureBook$Reckoner" 164 yX0_readNumber ∈ xW := xW_of (List.mem_append_right _ (List.mem_append_right _ (List.mem_append_right _ (List.mem_append_right _ (List.mem_append_left _ (List.mem_of_getElem? (i := 14) rfl)))))) rfl
set_option maxRecDepth 20000 in
theorem kw797 : Cond.instanceMethod yX0_readNumber ∈ xW := xW_of (List.mem_append_right _ (List.mem_append_right _ (List.mem_append_right _ (List.mem_append_right _ (List.mem_append_left _ (List.mem_of_getElem? (i := 15) rfl)))))) rfl
set_option maxRecDepth 20000 in
theorem kw798 : Cond.selects "MeasureBook$Bench" yX0_readNumber yX0_readNumber ∈ xW := xW_of (List.mem_append_right _ (List.mem_append_right _ (List.mem_append_right _ (List.mem_append_right _ (List.mem_append_left _ (List.mem_of_getElem? (i := 16) rfl)))))) rfl
set_option maxRecDepth 20000 in
theorem kw799 : Cond.code yX0_readNumber cX0_readNumber 10 (some .int) ∈ xW := xW_of (List.mem_append_right _ (List.mem_append_right _ (List.mem_append_right _ (List.mem_append_right _ (List.mem_append_left _ (List.mem_of_getElem? (i := 17) rfl)))))) rfl
set_option maxRecDepth 20000 in
theorem kw800 : Cond.methodLink "MeasureBook$Bench" 117 yJ9_min_7cf53 ∈ xW := xW_of (List.mem_append_right _ (List.mem_append_right _ (List.mem_append_right _ (List.mem_append_right _ (List.mem_append_left _ (List.mem_of_getElem? (i := 18) rfl)))))) rfl
set_option maxRecDepth 20000 in
theorem kw801 : Cond.methodLink "MeasureBook$Bench" 121 yJ9_max_7cf53 ∈ xW := xW_of (List.mem_append_right _ (List.mem_append_right _ (List.mem_append_right _ (List.mem_append_right _ (List.mem_append_left _ (List.mem_of_getElem? (i := 19) rfl)))))) rfl
set_option maxRecDepth 20000 in
theorem kw802 : Cond.methodLink "MeasureBook$Bench" 124 yX5_timesPlus ∈ xW := xW_of (List.mem_append_right _ (List.mem_append_right _ (List.mem_append_right _ (List.mem_append_right _ (List.mem_append_left _ (List.mem_of_getElem? (i := 20) rfl)))))) rfl
set_option maxRecDepth 20000 in
theorem kw803 : Cond.instanceMethod yX5_timesPlus ∈ xW := xW_of (List.mem_append_right _ (List.mem_append_right _ (List.mem_append_right _ (List.mem_append_right _ (List.mem_append_left _ (List.mem_of_getElem? (i := 21) rfl)))))) rfl
set_option maxRecDepth 20000 in
theorem kw804 : Cond.selects "MeasureBook$Natural" yX5_timesPlus yX5_timesPlus ∈ xW := xW_of (List.mem_append_right _ (List.mem_append_right _ (List.mem_append_right _ (List.mem_append_right _ (List.mem_append_left _ (List.mem_of_getElem? (i := 22) rfl)))))) rfl
set_option maxRecDepth 20000 in
theorem kw805 : Cond.code yX5_timesPlus cX5_timesPlus 6 none ∈ xW := xW_of (List.mem_append_right _ (List.mem_append_right _ (List.mem_append_right _ (List.mem_append_right _ (List.mem_append_left _ (List.mem_of_getElem? (i := 23) rfl)))))) rfl
set_option maxRecDepth 20000 in
theorem kw806 : Cond.methodLink "MeasureBook$Bench" 128 yX0_exponentAt ∈ xW := xW_of (List.mem_append_right _ (List.mem_append_right _ (List.mem_append_right _ (List.mem_append_right _ (List.mem_append_left _ (List.mem_of_getElem? (i := 24) rfl)))))) rfl
set_option maxRecDepth 20000 in
theorem kw807 : Cond.instanceMethod yX0_exponentAt ∈ xW := xW_of (List.mem_append_right _ (List.mem_append_right _ (List.mem_append_right _ (List.mem_append_right _ (List.mem_append_left _ (List.mem_of_getElem? (i := 25) rfl)))))) rfl
set_option maxRecDepth 20000 in
theorem kw808 : Cond.selects "MeasureBook$Bench" yX0_exponentAt yX0_exponentAt ∈ xW := xW_of (List.mem_append_right _ (List.mem_append_right _ (List.mem_append_right _ (List.mem_append_right _ (List.mem_append_left _ (List.mem_of_getElem? (i := 26) rfl)))))) rfl
set_option maxRecDepth 20000 in
theorem kw809 : Cond.code yX0_exponentAt cX0_exponentAt 7 (some .int) ∈ xW := xW_of (List.mem_append_right _ (List.mem_append_right _ (List.mem_append_right _ (List.mem_append_right _ (List.mem_append_left _ (List.mem_of_getElem? (i := 27) rfl)))))) rfl
set_option maxRecDepth 20000 in
theorem kw810 : Cond.methodLink "MeasureBook$Bench" 132 yX5_timesTens ∈ xW := xW_of (List.mem_append_right _ (List.mem_append_right _ (List.mem_append_right _ (List.mem_append_right _ (List.mem_append_left _ (List.mem_of_getElem? (i := 28) rfl)))))) rfl
set_option maxRecDepth 20000 in
theorem kw811 : Cond.instanceMethod yX5_timesTens ∈ xW := xW_of (List.mem_append_right _ (List.mem_append_right _ (List.mem_append_right _ (List.mem_append_right _ (List.mem_append_left _ (List.mem_of_getElem? (i := 29) rfl)))))) rfl
set_option maxRecDepth 20000 in
theorem kw812 : Cond.selects "MeasureBook$Natural" yX5_timesTens yX5_timesTens ∈ xW := xW_of (List.mem_append_right _ (List.mem_append_right _ (List.mem_append_right _ (List.mem_append_right _ (List.mem_append_left _ (List.mem_of_getElem? (i := 30) rfl)))))) rfl
set_option maxRecDepth 20000 in
theorem kw813 : Cond.code yX5_timesTens cX5_timesTens 3 none ∈ xW := xW_of (List.mem_append_right _ (List.mem_append_right _ (List.mem_append_right _ (List.mem_append_right _ (List.mem_append_left _ (List.mem_of_getElem? (i := 31) rfl)))))) rfl
set_option maxRecDepth 20000 in
theorem kw816 : Cond.methodLink "MeasureBook$Natural" 43 yX5_timesPlus ∈ xW := xW_of (List.mem_append_right _ (List.mem_append_right _ (List.mem_append_right _ (List.mem_append_right _ (List.mem_append_left _ (List.mem_of_getElem? (i := 34) rfl)))))) rfl
set_option maxRecDepth 20000 in
theorem kw817 : Cond.methodLink "MeasureBook$Bench" 138 yX9_losePowers ∈ xW := xW_of (List.mem_append_right _ (List.mem_append_right _ (List.mem_append_right _ (List.mem_append_right _ (List.mem_append_left _ (List.mem_of_getElem? (i := 35) rfl)))))) rfl
set_option maxRecDepth 20000 in
theorem kw818 : Cond.methodLink "MeasureBook$Reckoner" 80 yX7_leave ∈ xW := xW_of (List.mem_append_right _ (List.mem_append_right _ (List.mem_append_right _ (List.mem_append_right _ (List.mem_append_left _ (List.mem_of_getElem? (i := 36) rfl)))))) rfl
set_option maxRecDepth 20000 in
theorem kw819 : Cond.instanceMethod yX7_leave ∈ xW := xW_of (List.mem_append_right _ (List.mem_append_right _ (List.mem_append_right _ (List.mem_append_right _ (List.mem_append_left _ (List.mem_of_getElem? (i := 37) rfl)))))) rfl
set_option maxRecDepth 20000 in
theorem kw820 : Cond.selects "MeasureBook$Reckoner" yX7_leave yX7_leave ∈ xW := xW_of (List.mem_append_right _ (List.mem_append_right _ (List.mem_append_right _ (List.mem_append_right _ (List.mem_append_left _ (List.mem_of_getElem? (i := 38) rfl)))))) rfl
set_option maxRecDepth 20000 in
theorem kw821 : Cond.code yX7_leave cX7_leave 2 none ∈ xW := xW_of (List.mem_append_right _ (List.mem_append_right _ (List.mem_append_right _ (List.mem_append_right _ (List.mem_append_left _ (List.mem_of_getElem? (i := 39) rfl)))))) rfl
set_option maxRecDepth 20000 in
theorem kw822 : Cond.methodLink "MeasureBook$Reckoner" 86 yX4_firstEndless ∈ xW := xW_of (List.mem_append_right _ (List.mem_append_right _ (List.mem_append_right _ (List.mem_append_right _ (List.mem_append_left _ (List.mem_of_getElem? (i := 40) rfl)))))) rfl
set_option maxRecDepth 20000 in
theorem kw823 : Cond.instanceMethod yX4_firstEndless ∈ xW := xW_of (List.mem_append_right _ (List.mem_append_right _ (List.mem_append_right _ (List.mem_append_right _ (List.mem_append_left _ (List.mem_of_getElem? (i := 41) rfl)))))) rfl
set_option maxRecDepth 20000 in
theorem kw824 : Cond.selects "MeasureBook$Ledger" yX4_firstEndless yX4_firstEndless ∈ xW := xW_of (List.mem_append_right _ (List.mem_append_right _ (List.mem_append_right _ (List.mem_append_right _ (List.mem_append_left _ (List.mem_of_getElem? (i := 42) rfl)))))) rfl
set_option maxRecDepth 20000 in
theorem kw825 : Cond.code yX4_firstEndless cX4_firstEndless 3 (some .int) ∈ xW := xW_of (List.mem_append_right _ (List.mem_append_right _ (List.mem_append_right _ (List.mem_append_right _ (List.mem_append_left _ (List.mem_of_getElem? (i := 43) rfl)))))) rfl
set_option maxRecDepth 20000 in
theorem kw826 : Cond.methodLink "MeasureBook" 93 yX1_resize ∈ xW := xW_of (List.mem_append_right _ (List.mem_append_right _ (List.mem_append_right _ (List.mem_append_right _ (List.mem_append_left _ (List.mem_of_getElem? (i := 44) rfl)))))) rfl
set_option maxRecDepth 20000 in
theorem kw827 : Cond.instanceMethod yX1_resize ∈ xW := xW_of (List.mem_append_right _ (List.mem_append_right _ (List.mem_append_right _ (List.mem_append_right _ (List.mem_append_left _ (List.mem_of_getElem? (i := 45) rfl)))))) rfl
set_option maxRecDepth 20000 in
theorem kw828 : Cond.selects "MeasureBook$Book" yX1_resize yX1_resize ∈ xW := xW_of (List.mem_append_right _ (List.mem_append_right _ (List.mem_append_right _ (List.mem_append_right _ (List.mem_append_left _ (List.mem_of_getElem? (i := 46) rfl)))))) rfl
set_option maxRecDepth 20000 in
theorem kw829 : Cond.code yX1_resize cX1_resize 3 none ∈ xW := xW_of (List.mem_append_right _ (List.mem_append_right _ (List.mem_append_right _ (List.mem_append_right _ (List.mem_append_left _ (List.mem_of_getElem? (i := 47) rfl)))))) rfl
set_option maxRecDepth 20000 in
theorem kw830 : Cond.methodLink "MeasureBook$Book" 58 yJ9_min_7cf53 ∈ xW := xW_of (List.mem_append_right _ (List.mem_append_right _ (List.mem_append_right _ (List.mem_append_right _ (List.mem_append_left _ (List.mem_of_getElem? (i := 48) rfl)))))) rfl
set_option maxRecDepth 20000 in
theorem kw831 : Cond.methodLink "MeasureBook$Book" 64 yJ9_max_7cf53 ∈ xW := xW_of (List.mem_append_right _ (List.mem_append_right _ (List.mem_append_right _ (List.mem_append_right _ (List.mem_append_left _ (List.mem_of_getElem? (i := 49) rfl)))))) rfl
set_option maxRecDepth 20000 in
theorem kw832 : Cond.methodLink "MeasureBookLaw" 36 yX10_forget ∈ xW := xW_of (List.mem_append_right _ (List.mem_append_right _ (List.mem_append_right _ (List.mem_append_right _ (List.mem_append_left _ (List.mem_of_getElem? (i := 50) rfl)))))) rfl
set_option maxRecDepth 20000 in
theorem kw833 : Cond.instanceMethod yX10_forget ∈ xW := xW_of (List.mem_append_right _ (List.mem_append_right _ (List.mem_append_right _ (List.mem_append_right _ (List.mem_append_left _ (List.mem_of_getElem? (i := 51) rfl)))))) rfl
set_option maxRecDepth 20000 in
theorem kw834 : Cond.selects "MeasureBook" yX10_forget yX10_forget ∈ xW := xW_of (List.mem_append_right _ (List.mem_append_right _ (List.mem_append_right _ (List.mem_append_right _ (List.mem_append_left _ (List.mem_of_getElem? (i := 52) rfl)))))) rfl
set_option maxRecDepth 20000 in
theorem kw835 : Cond.code yX10_forget cX10_forget 3 (some .int) ∈ xW := xW_of (List.mem_append_right _ (List.mem_append_right _ (List.mem_append_right _ (List.mem_append_right _ (List.mem_append_left _ (List.mem_of_getElem? (i := 53) rfl)))))) rfl
set_option maxRecDepth 20000 in
theorem kw836 : Cond.methodLink "MeasureBook" 99 yX9_losePowers ∈ xW := xW_of (List.mem_append_right _ (List.mem_append_right _ (List.mem_append_right _ (List.mem_append_right _ (List.mem_append_left _ (List.mem_of_getElem? (i := 54) rfl)))))) rfl
set_option maxRecDepth 20000 in
theorem kw837 : Cond.methodLink "MeasureBookLaw" 40 yX10_reckon ∈ xW := xW_of (List.mem_append_right _ (List.mem_append_right _ (List.mem_append_right _ (List.mem_append_right _ (List.mem_append_left _ (List.mem_of_getElem? (i := 55) rfl)))))) rfl
set_option maxRecDepth 20000 in
theorem kw838 : Cond.instanceMethod yX10_reckon ∈ xW := xW_of (List.mem_append_right _ (List.mem_append_right _ (List.mem_append_right _ (List.mem_append_right _ (List.mem_append_left _ (List.mem_of_getElem? (i := 56) rfl)))))) rfl
set_option maxRecDepth 20000 in
theorem kw839 : Cond.selects "MeasureBook" yX10_reckon yX10_reckon ∈ xW := xW_of (List.mem_append_right _ (List.mem_append_right _ (List.mem_append_right _ (List.mem_append_right _ (List.mem_append_left _ (List.mem_of_getElem? (i := 57) rfl)))))) rfl
set_option maxRecDepth 20000 in
theorem kw840 : Cond.code yX10_reckon cX10_reckon 2 (some .int) ∈ xW := xW_of (List.mem_append_right _ (List.mem_append_right _ (List.mem_append_right _ (List.mem_append_right _ (List.mem_append_left _ (List.mem_of_getElem? (i := 58) rfl)))))) rfl
set_option maxRecDepth 20000 in
theorem kw841 : Cond.methodLink "MeasureBook" 102 yX10_openText ∈ xW := xW_of (List.mem_append_right _ (List.mem_append_right _ (List.mem_append_right _ (List.mem_append_right _ (List.mem_append_left _ (List.mem_of_getElem? (i := 59) rfl)))))) rfl
set_option maxRecDepth 20000 in
theorem kw843 : Cond.instanceMethod yX10_openText ∈ xW := xW_of (List.mem_append_right _ (List.mem_append_right _ (List.mem_append_right _ (List.mem_append_right _ (List.mem_append_left _ (List.mem_of_getElem? (i := 61) rfl)))))) rfl
set_option maxRecDepth 20000 in
theorem kw844 : Cond.code yX10_openText cX10_openText 2 (some .int) ∈ xW := xW_of (List.mem_append_right _ (List.mem_append_right _ (List.mem_append_right _ (List.mem_append_right _ (List.mem_append_left _ (List.mem_of_getElem? (i := 62) rfl)))))) rfl
set_option maxRecDepth 20000 in
theorem kw845 : Cond.methodLink "MeasureBook" 113 yX10_answerText ∈ xW := xW_of (List.mem_append_right _ (List.mem_append_right _ (List.mem_append_right _ (List.mem_append_right _ (List.mem_append_left _ (List.mem_of_getElem? (i := 63) rfl)))))) rfl
set_option maxRecDepth 20000 in
theorem kw847 : Cond.instanceMethod yX10_answerText ∈ xW := xW_of (List.mem_append_right _ (List.mem_append_right _ (List.mem_append_right _ (List.mem_append_right _ (List.mem_append_left _ (List.mem_of_getElem? (i := 65) rfl)))))) rfl
set_option maxRecDepth 20000 in
theorem kw848 : Cond.code yX10_answerText cX10_answerText 3 (some .int) ∈ xW := xW_of (List.mem_append_right _ (List.mem_append_right _ (List.mem_append_right _ (List.mem_append_right _ (List.mem_append_left _ (List.mem_of_getElem? (i := 66) rfl)))))) rfl
set_option maxRecDepth 20000 in
theorem kw849 : Cond.methodLink "MeasureBook" 254 yX7_run ∈ xW := xW_of (List.mem_append_right _ (List.mem_append_right _ (List.mem_append_right _ (List.mem_append_right _ (List.mem_append_left _ (List.mem_of_getElem? (i := 67) rfl)))))) rfl
set_option maxRecDepth 20000 in
theorem kw850 : Cond.methodLink "MeasureBook" 264 yX7_slot ∈ xW := xW_of (List.mem_append_right _ (List.mem_append_right _ (List.mem_append_right _ (List.mem_append_right _ (List.mem_append_left _ (List.mem_of_getElem? (i := 68) rfl)))))) rfl
set_option maxRecDepth 20000 in
theorem kw851 : Cond.methodLink "MeasureBook" 268 yX9_copy ∈ xW := xW_of (List.mem_append_right _ (List.mem_append_right _ (List.mem_append_right _ (List.mem_append_right _ (List.mem_append_left _ (List.mem_of_getElem? (i := 69) rfl)))))) rfl
set_option maxRecDepth 20000 in
theorem kw852 : Cond.methodLink "MeasureBookLaw" 44 yX10_turn ∈ xW := xW_of (List.mem_append_right _ (List.mem_append_right _ (List.mem_append_right _ (List.mem_append_right _ (List.mem_append_left _ (List.mem_of_getElem? (i := 70) rfl)))))) rfl
set_option maxRecDepth 20000 in
theorem kw853 : Cond.instanceMethod yX10_turn ∈ xW := xW_of (List.mem_append_right _ (List.mem_append_right _ (List.mem_append_right _ (List.mem_append_right _ (List.mem_append_left _ (List.mem_of_getElem? (i := 71) rfl)))))) rfl
set_option maxRecDepth 20000 in
theorem kw854 : Cond.selects "MeasureBook" yX10_turn yX10_turn ∈ xW := xW_of (List.mem_append_right _ (List.mem_append_right _ (List.mem_append_right _ (List.mem_append_right _ (List.mem_append_left _ (List.mem_of_getElem? (i := 72) rfl)))))) rfl
set_option maxRecDepth 20000 in
theorem kw855 : Cond.code yX10_turn cX10_turn 4 (some .int) ∈ xW := xW_of (List.mem_append_right _ (List.mem_append_right _ (List.mem_append_right _ (List.mem_append_right _ (List.mem_append_left _ (List.mem_of_getElem? (i := 73) rfl)))))) rfl
set_option maxRecDepth 20000 in
theorem kw856 : Cond.methodLink "MeasureBook" 132 yX2_add ∈ xW := xW_of (List.mem_append_right _ (List.mem_append_right _ (List.mem_append_right _ (List.mem_append_right _ (List.mem_append_left _ (List.mem_of_getElem? (i := 74) rfl)))))) rfl
set_option maxRecDepth 20000 in
theorem kw857 : Cond.methodLink "MeasureBookLaw" 48 yX10_fault ∈ xW := xW_of (List.mem_append_right _ (List.mem_append_right _ (List.mem_append_right _ (List.mem_append_right _ (List.mem_append_left _ (List.mem_of_getElem? (i := 75) rfl)))))) rfl
set_option maxRecDepth 20000 in
theorem kw858 : Cond.instanceMethod yX10_fault ∈ xW := xW_of (List.mem_append_right _ (List.mem_append_right _ (List.mem_append_right _ (List.mem_append_right _ (List.mem_append_left _ (List.mem_of_getElem? (i := 76) rfl)))))) rfl
set_option maxRecDepth 20000 in
theorem kw859 : Cond.selects "MeasureBook" yX10_fault yX10_fault ∈ xW := xW_of (List.mem_append_right _ (List.mem_append_right _ (List.mem_append_right _ (List.mem_append_right _ (List.mem_append_left _ (List.mem_of_getElem? (i := 77) rfl)))))) rfl
set_option maxRecDepth 20000 in
theorem kw860 : Cond.code yX10_fault cX10_fault 1 (some .int) ∈ xW := xW_of (List.mem_append_right _ (List.mem_append_right _ (List.mem_append_right _ (List.mem_append_right _ (List.mem_append_left _ (List.mem_of_getElem? (i := 78) rfl)))))) rfl
set_option maxRecDepth 20000 in
theorem kw861 : Cond.methodLink "MeasureBookLaw" 52 yX10_sign ∈ xW := xW_of (List.mem_append_right _ (List.mem_append_right _ (List.mem_append_right _ (List.mem_append_right _ (List.mem_append_left _ (List.mem_of_getElem? (i := 79) rfl)))))) rfl
set_option maxRecDepth 20000 in
theorem kw862 : Cond.instanceMethod yX10_sign ∈ xW := xW_of (List.mem_append_right _ (List.mem_append_right _ (List.mem_append_right _ (List.mem_append_right _ (List.mem_append_left _ (List.mem_of_getElem? (i := 80) rfl)))))) rfl
set_option maxRecDepth 20000 in
theorem kw863 : Cond.selects "MeasureBook" yX10_sign yX10_sign ∈ xW := xW_of (List.mem_append_right _ (List.mem_append_right _ (List.mem_append_right _ (List.mem_append_right _ (List.mem_append_left _ (List.mem_of_getElem? (i := 81) rfl)))))) rfl
set_option maxRecDepth 20000 in
theorem kw864 : Cond.code yX10_sign cX10_sign 1 (some .int) ∈ xW := xW_of (List.mem_append_right _ (List.mem_append_right _ (List.mem_append_right _ (List.mem_append_right _ (List.mem_append_left _ (List.mem_of_getElem? (i := 82) rfl)))))) rfl
set_option maxRecDepth 20000 in
theorem kw865 : Cond.methodLink "MeasureBookLaw" 56 yX10_power ∈ xW := xW_of (List.mem_append_right _ (List.mem_append_right _ (List.mem_append_right _ (List.mem_append_right _ (List.mem_append_left _ (List.mem_of_getElem? (i := 83) rfl)))))) rfl
set_option maxRecDepth 20000 in
theorem kw866 : Cond.instanceMethod yX10_power ∈ xW := xW_of (List.mem_append_right _ (List.mem_append_right _ (List.mem_append_right _ (List.mem_append_right _ (List.mem_append_left _ (List.mem_of_getElem? (i := 84) rfl)))))) rfl
set_option maxRecDepth 20000 in
theorem kw867 : Cond.selects "MeasureBook" yX10_power yX10_power ∈ xW := xW_of (List.mem_append_right _ (List.mem_append_right _ (List.mem_append_right _ (List.mem_append_right _ (List.mem_append_left _ (List.mem_of_getElem? (i := 85) rfl)))))) rfl
set_option maxRecDepth 20000 in
theorem kw868 : Cond.code yX10_power cX10_power 2 (some .int) ∈ xW := xW_of (List.mem_append_right _ (List.mem_append_right _ (List.mem_append_right _ (List.mem_append_right _ (List.mem_append_left _ (List.mem_of_getElem? (i := 86) rfl)))))) rfl
set_option maxRecDepth 20000 in
theorem kw869 : Cond.methodLink "MeasureBookLaw" 60 yX10_digits ∈ xW := xW_of (List.mem_append_right _ (List.mem_append_right _ (List.mem_append_right _ (List.mem_append_right _ (List.mem_append_left _ (List.mem_of_getElem? (i := 87) rfl)))))) rfl
set_option maxRecDepth 20000 in
theorem kw870 : Cond.instanceMethod yX10_digits ∈ xW := xW_of (List.mem_append_right _ (List.mem_append_right _ (List.mem_append_right _ (List.mem_append_right _ (List.mem_append_left _ (List.mem_of_getElem? (i := 88) rfl)))))) rfl
set_option maxRecDepth 20000 in
theorem kw871 : Cond.selects "MeasureBook" yX10_digits yX10_digits ∈ xW := xW_of (List.mem_append_right _ (List.mem_append_right _ (List.mem_append_right _ (List.mem_append_right _ (List.mem_append_left _ (List.mem_of_getElem? (i := 89) rfl)))))) rfl
set_option maxRecDepth 20000 in
theorem kw872 : Cond.code yX10_digits cX10_digits 2 (some .int) ∈ xW := xW_of (List.mem_append_right _ (List.mem_append_right _ (List.mem_append_right _ (List.mem_append_right _ (List.mem_append_left _ (List.mem_of_getElem? (i := 90) rfl)))))) rfl
set_option maxRecDepth 20000 in
theorem kw873 : Cond.methodLink "MeasureBook" 145 yX9_part ∈ xW := xW_of (List.mem_append_right _ (List.mem_append_right _ (List.mem_append_right _ (List.mem_append_right _ (List.mem_append_left _ (List.mem_of_getElem? (i := 91) rfl)))))) rfl
set_option maxRecDepth 20000 in
theorem kw874 : Cond.instanceMethod yX9_part ∈ xW := xW_of (List.mem_append_right _ (List.mem_append_right _ (List.mem_append_right _ (List.mem_append_right _ (List.mem_append_left _ (List.mem_of_getElem? (i := 92) rfl)))))) rfl
set_option maxRecDepth 20000 in
theorem kw875 : Cond.selects "MeasureBook$Value" yX9_part yX9_part ∈ xW := xW_of (List.mem_append_right _ (List.mem_append_right _ (List.mem_append_right _ (List.mem_append_right _ (List.mem_append_left _ (List.mem_of_getElem? (i := 93) rfl)))))) rfl
set_option maxRecDepth 20000 in
theorem kw876 : Cond.code yX9_part cX9_part 2 (some (.object "MeasureBook$Natural")) ∈ xW := xW_of (List.mem_append_right _ (List.mem_append_right _ (List.mem_append_right _ (List.mem_append_right _ (List.mem_append_left _ (List.mem_of_getElem? (i := 94) rfl)))))) rfl
set_option maxRecDepth 20000 in
theorem kw877 : Cond.methodLink "MeasureBook" 149 yX3_write ∈ xW := xW_of (List.mem_append_right _ (List.mem_append_right _ (List.mem_append_right _ (List.mem_append_right _ (List.mem_append_left _ (List.mem_of_getElem? (i := 95) rfl)))))) rfl
set_option maxRecDepth 20000 in
theorem kw878 : Cond.instanceMethod yX3_write ∈ xW := xW_of (List.mem_append_right _ (List.mem_append_right _ (List.mem_append_right _ (List.mem_append_right _ (List.mem_append_left _ (List.mem_of_getElem? (i := 96) rfl)))))) rfl
set_option maxRecDepth 20000 in
theorem kw879 : Cond.selects "MeasureBook$Decimals" yX3_write yX3_write ∈ xW := xW_of (List.mem_append_right _ (List.mem_append_right _ (List.mem_append_right _ (List.mem_append_right _ (List.mem_append_left _ (List.mem_of_getElem? (i := 97) rfl)))))) rfl
set_option maxRecDepth 20000 in
theorem kw880 : Cond.code yX3_write cX3_write 5 none ∈ xW := xW_of (List.mem_append_right _ (List.mem_append_right _ (List.mem_append_right _ (List.mem_append_right _ (List.mem_append_left _ (List.mem_of_getElem? (i := 98) rfl)))))) rfl
set_option maxRecDepth 20000 in
theorem kw881 : Cond.methodLink "MeasureBook$Decimals" 27 yX5_copy ∈ xW := xW_of (List.mem_append_right _ (List.mem_append_right _ (List.mem_append_right _ (List.mem_append_right _ (List.mem_append_left _ (List.mem_of_getElem? (i := 99) rfl)))))) rfl
set_option maxRecDepth 20000 in
theorem kw883 : Cond.methodLink "MeasureBook$Decimals" 38 yX5_divideSmall ∈ xW := xW_of (List.mem_append_right _ (List.mem_append_right _ (List.mem_append_right _ (List.mem_append_right _ (List.mem_append_left _ (List.mem_of_getElem? (i := 101) rfl)))))) rfl
set_option maxRecDepth 20000 in
theorem kw884 : Cond.methodLink "MeasureBookLaw" 64 yX10_digit ∈ xW := xW_of (List.mem_append_right _ (List.mem_append_right _ (List.mem_append_right _ (List.mem_append_right _ (List.mem_append_left _ (List.mem_of_getElem? (i := 102) rfl)))))) rfl
set_option maxRecDepth 20000 in
theorem kw885 : Cond.instanceMethod yX10_digit ∈ xW := xW_of (List.mem_append_right _ (List.mem_append_right _ (List.mem_append_right _ (List.mem_append_right _ (List.mem_append_left _ (List.mem_of_getElem? (i := 103) rfl)))))) rfl
set_option maxRecDepth 20000 in
theorem kw886 : Cond.selects "MeasureBook" yX10_digit yX10_digit ∈ xW := xW_of (List.mem_append_right _ (List.mem_append_right _ (List.mem_append_right _ (List.mem_append_right _ (List.mem_append_left _ (List.mem_of_getElem? (i := 104) rfl)))))) rfl
set_option maxRecDepth 20000 in
theorem kw887 : Cond.code yX10_digit cX10_digit 3 (some .int) ∈ xW := xW_of (List.mem_append_right _ (List.mem_append_right _ (List.mem_append_right _ (List.mem_append_right _ (List.mem_append_left _ (List.mem_of_getElem? (i := 105) rfl)))))) rfl
set_option maxRecDepth 20000 in
theorem kw888 : Cond.methodLink "MeasureBookLaw" 69 yX10_point ∈ xW := xW_of (List.mem_append_right _ (List.mem_append_right _ (List.mem_append_right _ (List.mem_append_right _ (List.mem_append_left _ (List.mem_of_getElem? (i := 106) rfl)))))) rfl
set_option maxRecDepth 20000 in
theorem kw889 : Cond.instanceMethod yX10_point ∈ xW := xW_of (List.mem_append_right _ (List.mem_append_right _ (List.mem_append_right _ (List.mem_append_right _ (List.mem_append_left _ (List.mem_of_getElem? (i := 107) rfl)))))) rfl
set_option maxRecDepth 20000 in
theorem kw890 : Cond.selects "MeasureBook" yX10_point yX10_point ∈ xW := xW_of (List.mem_append_right _ (List.mem_append_right _ (List.mem_append_right _ (List.mem_append_right _ (List.mem_append_left _ (List.mem_of_getElem? (i := 108) rfl)))))) rfl
set_option maxRecDepth 20000 in
theorem kw891 : Cond.code yX10_point cX10_point 2 (some .int) ∈ xW := xW_of (List.mem_append_right _ (List.mem_append_right _ (List.mem_append_right _ (List.mem_append_right _ (List.mem_append_left _ (List.mem_of_getElem? (i := 109) rfl)))))) rfl
set_option maxRecDepth 20000 in
theorem kw892 : Cond.methodLink "MeasureBook" 161 yX3_behindPoint ∈ xW := xW_of (List.mem_append_right _ (List.mem_append_right _ (List.mem_append_right _ (List.mem_append_right _ (List.mem_append_left _ (List.mem_of_getElem? (i := 110) rfl)))))) rfl
set_option maxRecDepth 20000 in
theorem kw893 : Cond.instanceMethod yX3_behindPoint ∈ xW := xW_of (List.mem_append_right _ (List.mem_append_right _ (List.mem_append_right _ (List.mem_append_right _ (List.mem_append_left _ (List.mem_of_getElem? (i := 111) rfl)))))) rfl
set_option maxRecDepth 20000 in
theorem kw894 : Cond.selects "MeasureBook$Decimals" yX3_behindPoint yX3_behindPoint ∈ xW := xW_of (List.mem_append_right _ (List.mem_append_right _ (List.mem_append_right _ (List.mem_append_right _ (List.mem_append_left _ (List.mem_of_getElem? (i := 112) rfl)))))) rfl
set_option maxRecDepth 20000 in
theorem kw895 : Cond.code yX3_behindPoint cX3_behindPoint 5 (some .int) ∈ xW := xW_of (List.mem_append_right _ (List.mem_append_right _ (List.mem_append_right _ (List.mem_append_right _ (List.mem_append_left _ (List.mem_of_getElem? (i := 113) rfl)))))) rfl
set_option maxRecDepth 20000 in
theorem kw896 : Cond.methodLink "MeasureBook$Decimals" 50 yX0_splitBy ∈ xW := xW_of (List.mem_append_right _ (List.mem_append_right _ (List.mem_append_right _ (List.mem_append_right _ (List.mem_append_left _ (List.mem_of_getElem? (i := 114) rfl)))))) rfl
set_option maxRecDepth 20000 in
theorem kw897 : Cond.methodLink "MeasureBook$Decimals" 56 yJ9_min_7cf53 ∈ xW := xW_of (List.mem_append_right _ (List.mem_append_right _ (List.mem_append_right _ (List.mem_append_right _ (List.mem_append_left _ (List.mem_of_getElem? (i := 115) rfl)))))) rfl
set_option maxRecDepth 20000 in
theorem kw898 : Cond.methodLink "MeasureBook$Decimals" 62 yX5_timesPlus ∈ xW := xW_of (List.mem_append_right _ (List.mem_append_right _ (List.mem_append_right _ (List.mem_append_right _ (List.mem_append_left _ (List.mem_of_getElem? (i := 116) rfl)))))) rfl
set_option maxRecDepth 20000 in
theorem kw899 : Cond.methodLink "MeasureBookLaw" 73 yX10_ends ∈ xW := xW_of (List.mem_append_right _ (List.mem_append_right _ (List.mem_append_right _ (List.mem_append_right _ (List.mem_append_left _ (List.mem_of_getElem? (i := 117) rfl)))))) rfl
set_option maxRecDepth 20000 in
theorem kw900 : Cond.instanceMethod yX10_ends ∈ xW := xW_of (List.mem_append_right _ (List.mem_append_right _ (List.mem_append_right _ (List.mem_append_right _ (List.mem_append_left _ (List.mem_of_getElem? (i := 118) rfl)))))) rfl
set_option maxRecDepth 20000 in
theorem kw901 : Cond.selects "MeasureBook" yX10_ends yX10_ends ∈ xW := xW_of (List.mem_append_right _ (List.mem_append_right _ (List.mem_append_right _ (List.mem_append_right _ (List.mem_append_left _ (List.mem_of_getElem? (i := 119) rfl)))))) rfl
set_option maxRecDepth 20000 in
theorem kw902 : Cond.code yX10_ends cX10_ends 4 (some .int) ∈ xW := xW_of (List.mem_append_right _ (List.mem_append_right _ (List.mem_append_right _ (List.mem_append_right _ (List.mem_append_left _ (List.mem_of_getElem? (i := 120) rfl)))))) rfl
set_option maxRecDepth 20000 in
theorem kw903 : Cond.methodLink "MeasureBook" 172 yX5_copy ∈ xW := xW_of (List.mem_append_right _ (List.mem_append_right _ (List.mem_append_right _ (List.mem_append_right _ (List.mem_append_left _ (List.mem_of_getElem? (i := 121) rfl)))))) rfl
set_option maxRecDepth 20000 in
theorem kw904 : Cond.methodLink "MeasureBook" 177 yX3_takeOut ∈ xW := xW_of (List.mem_append_right _ (List.mem_append_right _ (List.mem_append_right _ (List.mem_append_right _ (List.mem_append_left _ (List.mem_of_getElem? (i := 122) rfl)))))) rfl
set_option maxRecDepth 20000 in
theorem kw905 : Cond.instanceMethod yX3_takeOut ∈ xW := xW_of (List.mem_append_right _ (List.mem_append_right _ (List.mem_append_right _ (List.mem_append_right _ (List.mem_append_left _ (List.mem_of_getElem? (i := 123) rfl)))))) rfl
set_option maxRecDepth 20000 in
theorem kw906 : Cond.selects "MeasureBook$Decimals" yX3_takeOut yX3_takeOut ∈ xW := xW_of (List.mem_append_right _ (List.mem_append_right _ (List.mem_append_right _ (List.mem_append_right _ (List.mem_append_left _ (List.mem_of_getElem? (i := 124) rfl)))))) rfl
set_option maxRecDepth 20000 in
theorem kw907 : Cond.code yX3_takeOut cX3_takeOut 4 (some .int) ∈ xW := xW_of (List.mem_append_right _ (List.mem_append_right _ (List.mem_append_right _ (List.mem_append_right _ (List.mem_append_left _ (List.mem_of_getElem? (i := 125) rfl)))))) rfl
set_option maxRecDepth 20000 in
theorem kw908 : Cond.methodLink "MeasureBook" 180 yX5_isOne ∈ xW := xW_of (List.mem_append_right _ (List.mem_append_right _ (List.mem_append_right _ (List.mem_append_right _ (List.mem_append_left _ (List.mem_of_getElem? (i := 126) rfl)))))) rfl
set_option maxRecDepth 20000 in
theorem kw909 : Cond.methodLink "MeasureBookLaw" 77 yX10_alike ∈ xW := xW_of (List.mem_append_right _ (List.mem_append_right _ (List.mem_append_right _ (List.mem_append_right _ (List.mem_append_left _ (List.mem_of_getElem? (i := 127) rfl)))))) rfl
set_option maxRecDepth 20000 in
theorem kw910 : Cond.instanceMethod yX10_alike ∈ xW := xW_of (List.mem_append_right _ (List.mem_append_right _ (List.mem_append_right _ (List.mem_append_right _ (List.mem_append_left _ (List.mem_of_getElem? (i := 128) rfl)))))) rfl
set_option maxRecDepth 20000 in
theorem kw911 : Cond.selects "MeasureBook" yX10_alike yX10_alike ∈ xW := xW_of (List.mem_append_right _ (List.mem_append_right _ (List.mem_append_right _ (List.mem_append_right _ (List.mem_append_left _ (List.mem_of_getElem? (i := 129) rfl)))))) rfl
set_option maxRecDepth 20000 in
theorem kw912 : Cond.code yX10_alike cX10_alike 4 (some .int) ∈ xW := xW_of (List.mem_append_right _ (List.mem_append_right _ (List.mem_append_right _ (List.mem_append_right _ (List.mem_append_left _ (List.mem_of_getElem? (i := 130) rfl)))))) rfl
set_option maxRecDepth 20000 in
theorem kw913 : Cond.methodLink "MeasureBook" 184 yX10_isAlike ∈ xW := xW_of (List.mem_append_right _ (List.mem_append_right _ (List.mem_append_right _ (List.mem_append_right _ (List.mem_append_left _ (List.mem_of_getElem? (i := 131) rfl)))))) rfl
set_option maxRecDepth 20000 in
theorem kw915 : Cond.instanceMethod yX10_isAlike ∈ xW := xW_of (List.mem_append_right _ (List.mem_append_right _ (List.mem_append_right _ (List.mem_append_right _ (List.mem_append_left _ (List.mem_of_getElem? (i := 133) rfl)))))) rfl
set_option maxRecDepth 20000 in
theorem kw916 : Cond.code yX10_isAlike cX10_isAlike 3 (some .boolean) ∈ xW := xW_of (List.mem_append_right _ (List.mem_append_right _ (List.mem_append_right _ (List.mem_append_right _ (List.mem_append_left _ (List.mem_of_getElem? (i := 134) rfl)))))) rfl
set_option maxRecDepth 20000 in
theorem kw917 : Cond.methodLink "MeasureBook" 275 yX9_hasPowersOf ∈ xW := xW_of (List.mem_append_right _ (List.mem_append_right _ (List.mem_append_right _ (List.mem_append_right _ (List.mem_append_left _ (List.mem_of_getElem? (i := 135) rfl)))))) rfl
set_option maxRecDepth 20000 in
theorem kw918 : Cond.methodLink "MeasureBookLaw" 81 yX10_sort ∈ xW := xW_of (List.mem_append_right _ (List.mem_append_right _ (List.mem_append_right _ (List.mem_append_right _ (List.mem_append_left _ (List.mem_of_getElem? (i := 136) rfl)))))) rfl
set_option maxRecDepth 20000 in
theorem kw919 : Cond.instanceMethod yX10_sort ∈ xW := xW_of (List.mem_append_right _ (List.mem_append_right _ (List.mem_append_right _ (List.mem_append_right _ (List.mem_append_left _ (List.mem_of_getElem? (i := 137) rfl)))))) rfl
set_option maxRecDepth 20000 in
theorem kw920 : Cond.selects "MeasureBook" yX10_sort yX10_sort ∈ xW := xW_of (List.mem_append_right _ (List.mem_append_right _ (List.mem_append_right _ (List.mem_append_right _ (List.mem_append_left _ (List.mem_of_getElem? (i := 138) rfl)))))) rfl
set_option maxRecDepth 20000 in
theorem kw921 : Cond.code yX10_sort cX10_sort 2 (some .int) ∈ xW := xW_of (List.mem_append_right _ (List.mem_append_right _ (List.mem_append_right _ (List.mem_append_right _ (List.mem_append_left _ (List.mem_of_getElem? (i := 139) rfl)))))) rfl
set_option maxRecDepth 20000 in
theorem kw922 : Cond.methodLink "MeasureBook" 188 yX1_has ∈ xW := xW_of (List.mem_append_right _ (List.mem_append_right _ (List.mem_append_right _ (List.mem_append_right _ (List.mem_append_left _ (List.mem_of_getElem? (i := 140) rfl)))))) rfl
set_option maxRecDepth 20000 in
theorem kw923 : Cond.methodLink "MeasureBookLaw" 85 yX10_faultOf ∈ xW := xW_of (List.mem_append_right _ (List.mem_append_right _ (List.mem_append_right _ (List.mem_append_right _ (List.mem_append_left _ (List.mem_of_getElem? (i := 141) rfl)))))) rfl
set_option maxRecDepth 20000 in
theorem kw924 : Cond.instanceMethod yX10_faultOf ∈ xW := xW_of (List.mem_append_right _ (List.mem_append_right _ (List.mem_append_right _ (List.mem_append_right _ (List.mem_append_left _ (List.mem_of_getElem? (i := 142) rfl)))))) rfl
set_option maxRecDepth 20000 in
theorem kw925 : Cond.selects "MeasureBook" yX10_faultOf yX10_faultOf ∈ xW := xW_of (List.mem_append_right _ (List.mem_append_right _ (List.mem_append_right _ (List.mem_append_right _ (List.mem_append_left _ (List.mem_of_getElem? (i := 143) rfl)))))) rfl
set_option maxRecDepth 20000 in
theorem kw926 : Cond.code yX10_faultOf cX10_faultOf 2 (some .int) ∈ xW := xW_of (List.mem_append_right _ (List.mem_append_right _ (List.mem_append_right _ (List.mem_append_right _ (List.mem_append_left _ (List.mem_of_getElem? (i := 144) rfl)))))) rfl
set_option maxRecDepth 20000 in
theorem kw927 : Cond.methodLink "MeasureBookLaw" 89 yX10_name ∈ xW := xW_of (List.mem_append_right _ (List.mem_append_right _ (List.mem_append_right _ (List.mem_append_right _ (List.mem_append_left _ (List.mem_of_getElem? (i := 145) rfl)))))) rfl
set_option maxRecDepth 20000 in
theorem kw928 : Cond.instanceMethod yX10_name ∈ xW := xW_of (List.mem_append_right _ (List.mem_append_right _ (List.mem_append_right _ (List.mem_append_right _ (List.mem_append_left _ (List.mem_of_getElem? (i := 146) rfl)))))) rfl
set_option maxRecDepth 20000 in
theorem kw929 : Cond.selects "MeasureBook" yX10_name yX10_name ∈ xW := xW_of (List.mem_append_right _ (List.mem_append_right _ (List.mem_append_right _ (List.mem_append_right _ (List.mem_append_left _ (List.mem_of_getElem? (i := 147) rfl)))))) rfl
set_option maxRecDepth 20000 in
theorem kw930 : Cond.code yX10_name cX10_name 3 (some .int) ∈ xW := xW_of (List.mem_append_right _ (List.mem_append_right _ (List.mem_append_right _ (List.mem_append_right _ (List.mem_append_left _ (List.mem_of_getElem? (i := 148) rfl)))))) rfl
set_option maxRecDepth 20000 in
theorem kw931 : Cond.methodLink "MeasureBook" 209 yX1_byteAt ∈ xW := xW_of (List.mem_append_right _ (List.mem_append_right _ (List.mem_append_right _ (List.mem_append_right _ (List.mem_append_left _ (List.mem_of_getElem? (i := 149) rfl)))))) rfl
set_option maxRecDepth 20000 in
theorem kw932 : Cond.methodLink "MeasureBookLaw" 93 yX10_told ∈ xW := xW_of (List.mem_append_right _ (List.mem_append_right _ (List.mem_append_right _ (List.mem_append_right _ (List.mem_append_left _ (List.mem_of_getElem? (i := 150) rfl)))))) rfl
set_option maxRecDepth 20000 in
theorem kw933 : Cond.instanceMethod yX10_told ∈ xW := xW_of (List.mem_append_right _ (List.mem_append_right _ (List.mem_append_right _ (List.mem_append_right _ (List.mem_append_left _ (List.mem_of_getElem? (i := 151) rfl)))))) rfl
set_option maxRecDepth 20000 in
theorem kw934 : Cond.selects "MeasureBook" yX10_told yX10_told ∈ xW := xW_of (List.mem_append_right _ (List.mem_append_right _ (List.mem_append_right _ (List.mem_append_right _ (List.mem_append_left _ (List.mem_of_getElem? (i := 152) rfl)))))) rfl
set_option maxRecDepth 20000 in
theorem kw935 : Cond.code yX10_told cX10_told 2 (some .int) ∈ xW := xW_of (List.mem_append_right _ (List.mem_append_right _ (List.mem_append_right _ (List.mem_append_right _ (List.mem_append_left _ (List.mem_of_getElem? (i := 153) rfl)))))) rfl
set_option maxRecDepth 20000 in
theorem kw936 : Cond.methodLink "MeasureBookLaw" 9 yL_cell ∈ xW := xW_of (List.mem_append_right _ (List.mem_append_right _ (List.mem_append_right _ (List.mem_append_right _ (List.mem_append_left _ (List.mem_of_getElem? (i := 154) rfl)))))) rfl
set_option maxRecDepth 20000 in
theorem kw937 : Cond.static yL_cell ∈ xW := xW_of (List.mem_append_right _ (List.mem_append_right _ (List.mem_append_right _ (List.mem_append_right _ (List.mem_append_left _ (List.mem_of_getElem? (i := 155) rfl)))))) rfl
set_option maxRecDepth 20000 in
theorem kw938 : Cond.code yL_cell cL_cell 2 (some .int) ∈ xW := xW_of (List.mem_append_right _ (List.mem_append_right _ (List.mem_append_right _ (List.mem_append_right _ (List.mem_append_left _ (List.mem_of_getElem? (i := 156) rfl)))))) rfl
set_option maxRecDepth 20000 in
theorem kw939 : Cond.classLink "MeasureBookLaw" 18 "MeasureBookModel" ∈ xW := xW_of (List.mem_append_right _ (List.mem_append_right _ (List.mem_append_right _ (List.mem_append_right _ (List.mem_append_left _ (List.mem_of_getElem? (i := 157) rfl)))))) rfl
set_option maxRecDepth 20000 in
theorem kw940 : Cond.instantiable "MeasureBookModel" 48 ∈ xW := xW_of (List.mem_append_right _ (List.mem_append_right _ (List.mem_append_right _ (List.mem_append_right _ (List.mem_append_left _ (List.mem_of_getElem? (i := 158) rfl)))))) rfl
set_option maxRecDepth 20000 in
theorem kw941 : Cond.methodLink "MeasureBookLaw" 20 yX11_init ∈ xW := xW_of (List.mem_append_right _ (List.mem_append_right _ (List.mem_append_right _ (List.mem_append_right _ (List.mem_append_left _ (List.mem_of_getElem? (i := 159) rfl)))))) rfl
set_option maxRecDepth 20000 in
theorem kw942 : Cond.instanceMethod yX11_init ∈ xW := xW_of (List.mem_append_right _ (List.mem_append_right _ (List.mem_append_right _ (List.mem_append_right _ (List.mem_append_left _ (List.mem_of_getElem? (i := 160) rfl)))))) rfl
set_option maxRecDepth 20000 in
theorem kw943 : Cond.code yX11_init cX11_init 2 none ∈ xW := xW_of (List.mem_append_right _ (List.mem_append_right _ (List.mem_append_right _ (List.mem_append_right _ (List.mem_append_left _ (List.mem_of_getElem? (i := 161) rfl)))))) rfl
set_option maxRecDepth 20000 in
theorem kw944 : Cond.methodLink "MeasureBookModel" 1 objectInit ∈ xW := xW_of (List.mem_append_right _ (List.mem_append_right _ (List.mem_append_right _ (List.mem_append_right _ (List.mem_append_left _ (List.mem_of_getElem? (i := 162) rfl)))))) rfl
set_option maxRecDepth 20000 in
theorem kw945 : Cond.constant "MeasureBookModel" 40 90000 ∈ xW := xW_of (List.mem_append_right _ (List.mem_append_right _ (List.mem_append_right _ (List.mem_append_right _ (List.mem_append_left _ (List.mem_of_getElem? (i := 163) rfl)))))) rfl
set_option maxRecDepth 20000 in
theorem kw946 : Cond.methodLink "MeasureBookModel" 85 yX11_setOne ∈ xW := xW_of (List.mem_append_right _ (List.mem_append_right _ (List.mem_append_right _ (List.mem_append_right _ (List.mem_append_left _ (List.mem_of_getElem? (i := 164) rfl)))))) rfl
set_option maxRecDepth 20000 in
theorem kw948 : Cond.instanceMethod yX11_setOne ∈ xW := xW_of (List.mem_append_right _ (List.mem_append_right _ (List.mem_append_right _ (List.mem_append_right _ (List.mem_append_left _ (List.mem_of_getElem? (i := 166) rfl)))))) rfl
set_option maxRecDepth 20000 in
theorem kw949 : Cond.code yX11_setOne cX11_setOne 3 none ∈ xW := xW_of (List.mem_append_right _ (List.mem_append_right _ (List.mem_append_right _ (List.mem_append_right _ (List.mem_append_left _ (List.mem_of_getElem? (i := 167) rfl)))))) rfl
set_option maxRecDepth 20000 in
theorem kw950 : Cond.methodLink "MeasureBookModel" 114 yX11_setSmall ∈ xW := xW_of (List.mem_append_right _ (List.mem_append_right _ (List.mem_append_right _ (List.mem_append_right _ (List.mem_append_left _ (List.mem_of_getElem? (i := 168) rfl)))))) rfl
set_option maxRecDepth 20000 in
theorem kw952 : Cond.instanceMethod yX11_setSmall ∈ xW := xW_of (List.mem_append_right _ (List.mem_append_right _ (List.mem_append_right _ (List.mem_append_right _ (List.mem_append_left _ (List.mem_of_getElem? (i := 170) rfl)))))) rfl
set_option maxRecDepth 20000 in
theorem kw953 : Cond.code yX11_setSmall cX11_setSmall 3 none ∈ xW := xW_of (List.mem_append_right _ (List.mem_append_right _ (List.mem_append_right _ (List.mem_append_right _ (List.mem_append_left _ (List.mem_of_getElem? (i := 171) rfl)))))) rfl
set_option maxRecDepth 20000 in
theorem kw954 : Cond.methodLink "MeasureBookModel" 89 yX11_clear ∈ xW := xW_of (List.mem_append_right _ (List.mem_append_right _ (List.mem_append_right _ (List.mem_append_right _ (List.mem_append_left _ (List.mem_of_getElem? (i := 172) rfl)))))) rfl
set_option maxRecDepth 20000 in
theorem kw956 : Cond.instanceMethod yX11_clear ∈ xW := xW_of (List.mem_append_right _ (List.mem_append_right _ (List.mem_append_right _ (List.mem_append_right _ (List.mem_append_left _ (List.mem_of_getElem? (i := 174) rfl)))))) rfl
set_option maxRecDepth 20000 in
theorem kw957 : Cond.code yX11_clear cX11_clear 3 none ∈ xW := xW_of (List.mem_append_right _ (List.mem_append_right _ (List.mem_append_right _ (List.mem_append_right _ (List.mem_append_left _ (List.mem_of_getElem? (i := 175) rfl)))))) rfl
set_option maxRecDepth 20000 in
theorem kw958 : Cond.fieldLink "MeasureBookModel" 81 "MeasureBookModel" "bits" "I" ∈ xW := xW_of (List.mem_append_right _ (List.mem_append_right _ (List.mem_append_right _ (List.mem_append_right _ (List.mem_append_left _ (List.mem_of_getElem? (i := 176) rfl)))))) rfl
set_option maxRecDepth 20000 in
theorem kw959 : Cond.fieldLink "MeasureBookModel" 7 "MeasureBookModel" "limbs" "[I" ∈ xW := xW_of (List.mem_append_right _ (List.mem_append_right _ (List.mem_append_right _ (List.mem_append_right _ (List.mem_append_left _ (List.mem_of_getElem? (i := 177) rfl)))))) rfl
set_option maxRecDepth 20000 in
theorem kw960 : Cond.fieldLink "MeasureBookModel" 13 "MeasureBookModel" "signs" "[I" ∈ xW := xW_of (List.mem_append_right _ (List.mem_append_right _ (List.mem_append_right _ (List.mem_append_right _ (List.mem_append_left _ (List.mem_of_getElem? (i := 178) rfl)))))) rfl
set_option maxRecDepth 20000 in
theorem kw961 : Cond.fieldLink "MeasureBookModel" 16 "MeasureBookModel" "powers" "[I" ∈ xW := xW_of (List.mem_append_right _ (List.mem_append_right _ (List.mem_append_right _ (List.mem_append_right _ (List.mem_append_left _ (List.mem_of_getElem? (i := 179) rfl)))))) rfl
set_option maxRecDepth 20000 in
theorem kw962 : Cond.fieldLink "MeasureBookModel" 19 "MeasureBookModel" "tape" "[I" ∈ xW := xW_of (List.mem_append_right _ (List.mem_append_right _ (List.mem_append_right _ (List.mem_append_right _ (List.mem_append_left _ (List.mem_of_getElem? (i := 180) rfl)))))) rfl
set_option maxRecDepth 20000 in
theorem kw963 : Cond.fieldLink "MeasureBookModel" 277 "MeasureBookModel" "taped" "I" ∈ xW := xW_of (List.mem_append_right _ (List.mem_append_right _ (List.mem_append_right _ (List.mem_append_right _ (List.mem_append_left _ (List.mem_of_getElem? (i := 181) rfl)))))) rfl
set_option maxRecDepth 20000 in
theorem kw964 : Cond.fieldLink "MeasureBookModel" 308 "MeasureBookModel" "many" "I" ∈ xW := xW_of (List.mem_append_right _ (List.mem_append_right _ (List.mem_append_right _ (List.mem_append_right _ (List.mem_append_left _ (List.mem_of_getElem? (i := 182) rfl)))))) rfl
set_option maxRecDepth 20000 in
theorem kw965 : Cond.fieldLink "MeasureBookModel" 22 "MeasureBookModel" "sorts" "[I" ∈ xW := xW_of (List.mem_append_right _ (List.mem_append_right _ (List.mem_append_right _ (List.mem_append_right _ (List.mem_append_left _ (List.mem_of_getElem? (i := 183) rfl)))))) rfl
set_option maxRecDepth 20000 in
theorem kw966 : Cond.fieldLink "MeasureBookModel" 25 "MeasureBookModel" "baseOf" "[I" ∈ xW := xW_of (List.mem_append_right _ (List.mem_append_right _ (List.mem_append_right _ (List.mem_append_right _ (List.mem_append_left _ (List.mem_of_getElem? (i := 184) rfl)))))) rfl
set_option maxRecDepth 20000 in
theorem kw967 : Cond.fieldLink "MeasureBookModel" 28 "MeasureBookModel" "names" "[I" ∈ xW := xW_of (List.mem_append_right _ (List.mem_append_right _ (List.mem_append_right _ (List.mem_append_right _ (List.mem_append_left _ (List.mem_of_getElem? (i := 185) rfl)))))) rfl
set_option maxRecDepth 20000 in
theorem kw968 : Cond.fieldLink "MeasureBookModel" 31 "MeasureBookModel" "nameSizes" "[I" ∈ xW := xW_of (List.mem_append_right _ (List.mem_append_right _ (List.mem_append_right _ (List.mem_append_right _ (List.mem_append_left _ (List.mem_of_getElem? (i := 186) rfl)))))) rfl
set_option maxRecDepth 20000 in
theorem kw969 : Cond.fieldLink "MeasureBookModel" 34 "MeasureBookModel" "textFrom" "[I" ∈ xW := xW_of (List.mem_append_right _ (List.mem_append_right _ (List.mem_append_right _ (List.mem_append_right _ (List.mem_append_left _ (List.mem_of_getElem? (i := 187) rfl)))))) rfl
set_option maxRecDepth 20000 in
theorem kw970 : Cond.fieldLink "MeasureBookModel" 37 "MeasureBookModel" "textTo" "[I" ∈ xW := xW_of (List.mem_append_right _ (List.mem_append_right _ (List.mem_append_right _ (List.mem_append_right _ (List.mem_append_left _ (List.mem_of_getElem? (i := 188) rfl)))))) rfl
set_option maxRecDepth 20000 in
theorem kw971 : Cond.fieldLink "MeasureBookModel" 41 "MeasureBookModel" "book" "[I" ∈ xW := xW_of (List.mem_append_right _ (List.mem_append_right _ (List.mem_append_right _ (List.mem_append_right _ (List.mem_append_left _ (List.mem_of_getElem? (i := 189) rfl)))))) rfl
set_option maxRecDepth 20000 in
theorem kw972 : Cond.fieldLink "MeasureBookModel" 314 "MeasureBookModel" "booked" "I" ∈ xW := xW_of (List.mem_append_right _ (List.mem_append_right _ (List.mem_append_right _ (List.mem_append_right _ (List.mem_append_left _ (List.mem_of_getElem? (i := 190) rfl)))))) rfl
set_option maxRecDepth 20000 in
theorem kw973 : Cond.fieldLink "MeasureBookModel" 44 "MeasureBookModel" "faults" "[I" ∈ xW := xW_of (List.mem_append_right _ (List.mem_append_right _ (List.mem_append_right _ (List.mem_append_right _ (List.mem_append_left _ (List.mem_of_getElem? (i := 191) rfl)))))) rfl
set_option maxRecDepth 20000 in
theorem kw974 : Cond.fieldLink "MeasureBookModel" 47 "MeasureBookModel" "known" "[I" ∈ xW := xW_of (List.mem_append_right _ (List.mem_append_right _ (List.mem_append_right _ (List.mem_append_right _ (List.mem_append_left _ (List.mem_of_getElem? (i := 192) rfl)))))) rfl
set_option maxRecDepth 20000 in
theorem kw975 : Cond.fieldLink "MeasureBookModel" 50 "MeasureBookModel" "chain" "[I" ∈ xW := xW_of (List.mem_append_right _ (List.mem_append_right _ (List.mem_append_right _ (List.mem_append_right _ (List.mem_append_left _ (List.mem_of_getElem? (i := 193) rfl)))))) rfl
set_option maxRecDepth 20000 in
theorem kw976 : Cond.fieldLink "MeasureBookModel" 280 "MeasureBookModel" "fault" "I" ∈ xW := xW_of (List.mem_append_right _ (List.mem_append_right _ (List.mem_append_right _ (List.mem_append_right _ (List.mem_append_left _ (List.mem_of_getElem? (i := 194) rfl)))))) rfl
set_option maxRecDepth 20000 in
theorem kw977 : Cond.fieldLink "MeasureBookModel" 336 "MeasureBookModel" "given" "I" ∈ xW := xW_of (List.mem_append_right _ (List.mem_append_right _ (List.mem_append_right _ (List.mem_append_right _ (List.mem_append_left _ (List.mem_of_getElem? (i := 195) rfl)))))) rfl
set_option maxRecDepth 20000 in
theorem kw978 : Cond.fieldLink "MeasureBookModel" 161 "MeasureBookModel" "inBook" "Z" ∈ xW := xW_of (List.mem_append_right _ (List.mem_append_right _ (List.mem_append_right _ (List.mem_append_right _ (List.mem_append_left _ (List.mem_of_getElem? (i := 196) rfl)))))) rfl
set_option maxRecDepth 20000 in
theorem kw979 : Cond.fieldLink "MeasureBookModel" 158 "MeasureBookModel" "stop" "I" ∈ xW := xW_of (List.mem_append_right _ (List.mem_append_right _ (List.mem_append_right _ (List.mem_append_right _ (List.mem_append_left _ (List.mem_of_getElem? (i := 197) rfl)))))) rfl
set_option maxRecDepth 20000 in
theorem kw980 : Cond.fieldLink "MeasureBookModel" 174 "MeasureBookModel" "token" "I" ∈ xW := xW_of (List.mem_append_right _ (List.mem_append_right _ (List.mem_append_right _ (List.mem_append_right _ (List.mem_append_left _ (List.mem_of_getElem? (i := 198) rfl)))))) rfl
set_option maxRecDepth 20000 in
theorem kw981 : Cond.fieldLink "MeasureBookModel" 168 "MeasureBookModel" "tokenFrom" "I" ∈ xW := xW_of (List.mem_append_right _ (List.mem_append_right _ (List.mem_append_right _ (List.mem_append_right _ (List.mem_append_left _ (List.mem_of_getElem? (i := 199) rfl)))))) rfl
set_option maxRecDepth 20000 in
theorem kw982 : Cond.fieldLink "MeasureBookModel" 171 "MeasureBookModel" "tokenTo" "I" ∈ xW := xW_of (List.mem_append_right _ (List.mem_append_right _ (List.mem_append_right _ (List.mem_append_right _ (List.mem_append_left _ (List.mem_of_getElem? (i := 200) rfl)))))) rfl
set_option maxRecDepth 20000 in
theorem kw983 : Cond.fieldLink "MeasureBookModel" 194 "MeasureBookModel" "prefix" "I" ∈ xW := xW_of (List.mem_append_right _ (List.mem_append_right _ (List.mem_append_right _ (List.mem_append_right _ (List.mem_append_left _ (List.mem_of_getElem? (i := 201) rfl)))))) rfl
set_option maxRecDepth 20000 in
theorem kw984 : Cond.fieldLink "MeasureBookModel" 200 "MeasureBookModel" "meant" "I" ∈ xW := xW_of (List.mem_append_right _ (List.mem_append_right _ (List.mem_append_right _ (List.mem_append_right _ (List.mem_append_left _ (List.mem_of_getElem? (i := 202) rfl)))))) rfl
set_option maxRecDepth 20000 in
theorem kw985 : Cond.fieldLink "MeasureBookModel" 212 "MeasureBookModel" "reckons" "Z" ∈ xW := xW_of (List.mem_append_right _ (List.mem_append_right _ (List.mem_append_right _ (List.mem_append_right _ (List.mem_append_left _ (List.mem_of_getElem? (i := 203) rfl)))))) rfl
set_option maxRecDepth 20000 in
theorem kw986 : Cond.fieldLink "MeasureBookModel" 237 "MeasureBookModel" "all" "I" ∈ xW := xW_of (List.mem_append_right _ (List.mem_append_right _ (List.mem_append_right _ (List.mem_append_right _ (List.mem_append_left _ (List.mem_of_getElem? (i := 204) rfl)))))) rfl
set_option maxRecDepth 20000 in
theorem kw987 : Cond.fieldLink "MeasureBookModel" 203 "MeasureBookModel" "wrong" "I" ∈ xW := xW_of (List.mem_append_right _ (List.mem_append_right _ (List.mem_append_right _ (List.mem_append_right _ (List.mem_append_left _ (List.mem_of_getElem? (i := 205) rfl)))))) rfl
set_option maxRecDepth 20000 in
theorem kw988 : Cond.fieldLink "MeasureBookModel" 206 "MeasureBookModel" "wrongAt" "I" ∈ xW := xW_of (List.mem_append_right _ (List.mem_append_right _ (List.mem_append_right _ (List.mem_append_right _ (List.mem_append_left _ (List.mem_of_getElem? (i := 206) rfl)))))) rfl
set_option maxRecDepth 20000 in
theorem kw989 : Cond.fieldLink "MeasureBookModel" 243 "MeasureBookModel" "needed" "I" ∈ xW := xW_of (List.mem_append_right _ (List.mem_append_right _ (List.mem_append_right _ (List.mem_append_right _ (List.mem_append_left _ (List.mem_of_getElem? (i := 207) rfl)))))) rfl
set_option maxRecDepth 20000 in
theorem kw990 : Cond.fieldLink "MeasureBookModel" 209 "MeasureBookModel" "brackets" "I" ∈ xW := xW_of (List.mem_append_right _ (List.mem_append_right _ (List.mem_append_right _ (List.mem_append_right _ (List.mem_append_left _ (List.mem_of_getElem? (i := 208) rfl)))))) rfl
set_option maxRecDepth 20000 in
theorem kw991 : Cond.fieldLink "MeasureBookModel" 53 "MeasureBookModel" "hasTerms" "[Z" ∈ xW := xW_of (List.mem_append_right _ (List.mem_append_right _ (List.mem_append_right _ (List.mem_append_right _ (List.mem_append_left _ (List.mem_of_getElem? (i := 209) rfl)))))) rfl
set_option maxRecDepth 20000 in
theorem kw992 : Cond.fieldLink "MeasureBookModel" 57 "MeasureBookModel" "hasTerm" "[Z" ∈ xW := xW_of (List.mem_append_right _ (List.mem_append_right _ (List.mem_append_right _ (List.mem_append_right _ (List.mem_append_left _ (List.mem_of_getElem? (i := 210) rfl)))))) rfl
set_option maxRecDepth 20000 in
theorem kw993 : Cond.fieldLink "MeasureBookModel" 60 "MeasureBookModel" "hasRow" "[Z" ∈ xW := xW_of (List.mem_append_right _ (List.mem_append_right _ (List.mem_append_right _ (List.mem_append_right _ (List.mem_append_left _ (List.mem_of_getElem? (i := 211) rfl)))))) rfl
set_option maxRecDepth 20000 in
theorem kw994 : Cond.fieldLink "MeasureBookModel" 63 "MeasureBookModel" "minus" "[Z" ∈ xW := xW_of (List.mem_append_right _ (List.mem_append_right _ (List.mem_append_right _ (List.mem_append_right _ (List.mem_append_left _ (List.mem_of_getElem? (i := 212) rfl)))))) rfl
set_option maxRecDepth 20000 in
theorem kw995 : Cond.fieldLink "MeasureBookModel" 66 "MeasureBookModel" "termsSign" "[I" ∈ xW := xW_of (List.mem_append_right _ (List.mem_append_right _ (List.mem_append_right _ (List.mem_append_right _ (List.mem_append_left _ (List.mem_of_getElem? (i := 213) rfl)))))) rfl
set_option maxRecDepth 20000 in
theorem kw996 : Cond.fieldLink "MeasureBookModel" 69 "MeasureBookModel" "termsAt" "[I" ∈ xW := xW_of (List.mem_append_right _ (List.mem_append_right _ (List.mem_append_right _ (List.mem_append_right _ (List.mem_append_left _ (List.mem_of_getElem? (i := 214) rfl)))))) rfl
set_option maxRecDepth 20000 in
theorem kw997 : Cond.fieldLink "MeasureBookModel" 72 "MeasureBookModel" "termSign" "[I" ∈ xW := xW_of (List.mem_append_right _ (List.mem_append_right _ (List.mem_append_right _ (List.mem_append_right _ (List.mem_append_left _ (List.mem_of_getElem? (i := 215) rfl)))))) rfl
set_option maxRecDepth 20000 in
theorem kw998 : Cond.fieldLink "MeasureBookModel" 75 "MeasureBookModel" "termAt" "[I" ∈ xW := xW_of (List.mem_append_right _ (List.mem_append_right _ (List.mem_append_right _ (List.mem_append_right _ (List.mem_append_left _ (List.mem_of_getElem? (i := 216) rfl)))))) rfl
set_option maxRecDepth 20000 in
theorem kw999 : Cond.fieldLink "MeasureBookModel" 78 "MeasureBookModel" "powerAt" "[I" ∈ xW := xW_of (List.mem_append_right _ (List.mem_append_right _ (List.mem_append_right _ (List.mem_append_right _ (List.mem_append_left _ (List.mem_of_getElem? (i := 217) rfl)))))) rfl
set_option maxRecDepth 20000 in
theorem kw1000 : Cond.fieldLink "MeasureBookModel" 289 "MeasureBookModel" "total" "I" ∈ xW := xW_of (List.mem_append_right _ (List.mem_append_right _ (List.mem_append_right _ (List.mem_append_right _ (List.mem_append_left _ (List.mem_of_getElem? (i := 218) rfl)))))) rfl
set_option maxRecDepth 20000 in
theorem kw1001 : Cond.fieldLink "MeasureBookModel" 298 "MeasureBookModel" "bases" "I" ∈ xW := xW_of (List.mem_append_right _ (List.mem_append_right _ (List.mem_append_right _ (List.mem_append_right _ (List.mem_append_left _ (List.mem_of_getElem? (i := 219) rfl)))))) rfl
set_option maxRecDepth 20000 in
theorem kw1002 : Cond.fieldLink "MeasureBookModel" 305 "MeasureBookModel" "filled" "I" ∈ xW := xW_of (List.mem_append_right _ (List.mem_append_right _ (List.mem_append_right _ (List.mem_append_right _ (List.mem_append_left _ (List.mem_of_getElem? (i := 220) rfl)))))) rfl
set_option maxRecDepth 20000 in
theorem kw1003 : Cond.fieldLink "MeasureBookModel" 283 "MeasureBookModel" "lineFault" "I" ∈ xW := xW_of (List.mem_append_right _ (List.mem_append_right _ (List.mem_append_right _ (List.mem_append_right _ (List.mem_append_left _ (List.mem_of_getElem? (i := 221) rfl)))))) rfl
set_option maxRecDepth 20000 in
theorem kw1004 : Cond.fieldLink "MeasureBookModel" 286 "MeasureBookModel" "lineAt" "I" ∈ xW := xW_of (List.mem_append_right _ (List.mem_append_right _ (List.mem_append_right _ (List.mem_append_right _ (List.mem_append_left _ (List.mem_of_getElem? (i := 222) rfl)))))) rfl
set_option maxRecDepth 20000 in
theorem kw1005 : Cond.fieldLink "MeasureBookModel" 326 "MeasureBookModel" "turnAt" "I" ∈ xW := xW_of (List.mem_append_right _ (List.mem_append_right _ (List.mem_append_right _ (List.mem_append_right _ (List.mem_append_left _ (List.mem_of_getElem? (i := 223) rfl)))))) rfl
set_option maxRecDepth 20000 in
theorem kw1103 : Cond.arrayClass .boolean ∈ xW := xW_of (List.mem_append_right _ (List.mem_append_right _ (List.mem_append_right _ (List.mem_append_right _ (List.mem_append_right _ (List.mem_append_left _ (List.mem_of_getElem? (i := 81) rfl))))))) rfl
set_option maxRecDepth 20000 in
theorem kw1104 : Cond.methodLink "MeasureBookLaw" 25 yX11_feed ∈ xW := xW_of (List.mem_append_right _ (List.mem_append_right _ (List.mem_append_right _ (List.mem_append_right _ (List.mem_append_right _ (List.mem_append_left _ (List.mem_of_getElem? (i := 82) rfl))))))) rfl
set_option maxRecDepth 20000 in
theorem kw1105 : Cond.instanceMethod yX11_feed ∈ xW := xW_of (List.mem_append_right _ (List.mem_append_right _ (List.mem_append_right _ (List.mem_append_right _ (List.mem_append_right _ (List.mem_append_left _ (List.mem_of_getElem? (i := 83) rfl))))))) rfl
set_option maxRecDepth 20000 in
theorem kw1106 : Cond.selects "MeasureBookModel" yX11_feed yX11_feed ∈ xW := xW_of (List.mem_append_right _ (List.mem_append_right _ (List.mem_append_right _ (List.mem_append_right _ (List.mem_append_right _ (List.mem_append_left _ (List.mem_of_getElem? (i := 84) rfl))))))) rfl
set_option maxRecDepth 20000 in
theorem kw1107 : Cond.code yX11_feed cX11_feed 8 (some .int) ∈ xW := xW_of (List.mem_append_right _ (List.mem_append_right _ (List.mem_append_right _ (List.mem_append_right _ (List.mem_append_right _ (List.mem_append_left _ (List.mem_of_getElem? (i := 85) rfl))))))) rfl
set_option maxRecDepth 20000 in
theorem kw1108 : Cond.methodLink "MeasureBookLaw" 30 yX11_cut ∈ xW := xW_of (List.mem_append_right _ (List.mem_append_right _ (List.mem_append_right _ (List.mem_append_right _ (List.mem_append_right _ (List.mem_append_left _ (List.mem_of_getElem? (i := 86) rfl))))))) rfl
set_option maxRecDepth 20000 in
theorem kw1109 : Cond.instanceMethod yX11_cut ∈ xW := xW_of (List.mem_append_right _ (List.mem_append_right _ (List.mem_append_right _ (List.mem_append_right _ (List.mem_append_right _ (List.mem_append_left _ (List.mem_of_getElem? (i := 87) rfl))))))) rfl
set_option maxRecDepth 20000 in
theorem kw1110 : Cond.selects "MeasureBookModel" yX11_cut yX11_cut ∈ xW := xW_of (List.mem_append_right _ (List.mem_append_right _ (List.mem_append_right _ (List.mem_append_right _ (List.mem_append_right _ (List.mem_append_left _ (List.mem_of_getElem? (i := 88) rfl))))))) rfl
set_option maxRecDepth 20000 in
theorem kw1111 : Cond.code yX11_cut cX11_cut 3 (some .int) ∈ xW := xW_of (List.mem_append_right _ (List.mem_append_right _ (List.mem_append_right _ (List.mem_append_right _ (List.mem_append_right _ (List.mem_append_left _ (List.mem_of_getElem? (i := 89) rfl))))))) rfl
set_option maxRecDepth 20000 in
theorem kw1112 : Cond.methodLink "MeasureBookLaw" 35 yX11_define ∈ xW := xW_of (List.mem_append_right _ (List.mem_append_right _ (List.mem_append_right _ (List.mem_append_right _ (List.mem_append_right _ (List.mem_append_left _ (List.mem_of_getElem? (i := 90) rfl))))))) rfl
set_option maxRecDepth 20000 in
theorem kw1113 : Cond.instanceMethod yX11_define ∈ xW := xW_of (List.mem_append_right _ (List.mem_append_right _ (List.mem_append_right _ (List.mem_append_right _ (List.mem_append_right _ (List.mem_append_left _ (List.mem_of_getElem? (i := 91) rfl))))))) rfl
set_option maxRecDepth 20000 in
theorem kw1114 : Cond.selects "MeasureBookModel" yX11_define yX11_define ∈ xW := xW_of (List.mem_append_right _ (List.mem_append_right _ (List.mem_append_right _ (List.mem_append_right _ (List.mem_append_right _ (List.mem_append_left _ (List.mem_of_getElem? (i := 92) rfl))))))) rfl
set_option maxRecDepth 20000 in
theorem kw1115 : Cond.code yX11_define cX11_define 5 (some .int) ∈ xW := xW_of (List.mem_append_right _ (List.mem_append_right _ (List.mem_append_right _ (List.mem_append_right _ (List.mem_append_right _ (List.mem_append_left _ (List.mem_of_getElem? (i := 93) rfl))))))) rfl
set_option maxRecDepth 20000 in
theorem kw1116 : Cond.methodLink "MeasureBookModel" 311 yX11_count ∈ xW := xW_of (List.mem_append_right _ (List.mem_append_right _ (List.mem_append_right _ (List.mem_append_right _ (List.mem_append_right _ (List.mem_append_left _ (List.mem_of_getElem? (i := 94) rfl))))))) rfl
set_option maxRecDepth 20000 in
theorem kw1118 : Cond.instanceMethod yX11_count ∈ xW := xW_of (List.mem_append_right _ (List.mem_append_right _ (List.mem_append_right _ (List.mem_append_right _ (List.mem_append_right _ (List.mem_append_left _ (List.mem_of_getElem? (i := 96) rfl))))))) rfl
set_option maxRecDepth 20000 in
theorem kw1119 : Cond.code yX11_count cX11_count 5 (some .int) ∈ xW := xW_of (List.mem_append_right _ (List.mem_append_right _ (List.mem_append_right _ (List.mem_append_right _ (List.mem_append_right _ (List.mem_append_left _ (List.mem_of_getElem? (i := 97) rfl))))))) rfl
set_option maxRecDepth 20000 in
theorem kw1120 : Cond.methodLink "MeasureBookModel" 317 yX11_line ∈ xW := xW_of (List.mem_append_right _ (List.mem_append_right _ (List.mem_append_right _ (List.mem_append_right _ (List.mem_append_right _ (List.mem_append_left _ (List.mem_of_getElem? (i := 98) rfl))))))) rfl
set_option maxRecDepth 20000 in
theorem kw1122 : Cond.instanceMethod yX11_line ∈ xW := xW_of (List.mem_append_right _ (List.mem_append_right _ (List.mem_append_right _ (List.mem_append_right _ (List.mem_append_right _ (List.mem_append_left _ (List.mem_of_getElem? (i := 100) rfl))))))) rfl
set_option maxRecDepth 20000 in
theorem kw1123 : Cond.code yX11_line cX11_line 9 none ∈ xW := xW_of (List.mem_append_right _ (List.mem_append_right _ (List.mem_append_right _ (List.mem_append_right _ (List.mem_append_right _ (List.mem_append_left _ (List.mem_of_getElem? (i := 101) rfl))))))) rfl
set_option maxRecDepth 20000 in
theorem kw1124 : Cond.methodLink "MeasureBookModel" 231 yX11_lex ∈ xW := xW_of (List.mem_append_right _ (List.mem_append_right _ (List.mem_append_right _ (List.mem_append_right _ (List.mem_append_right _ (List.mem_append_left _ (List.mem_of_getElem? (i := 102) rfl))))))) rfl
set_option maxRecDepth 20000 in
theorem kw1126 : Cond.instanceMethod yX11_lex ∈ xW := xW_of (List.mem_append_right _ (List.mem_append_right _ (List.mem_append_right _ (List.mem_append_right _ (List.mem_append_right _ (List.mem_append_left _ (List.mem_of_getElem? (i := 104) rfl))))))) rfl
set_option maxRecDepth 20000 in
theorem kw1127 : Cond.code yX11_lex cX11_lex 5 none ∈ xW := xW_of (List.mem_append_right _ (List.mem_append_right _ (List.mem_append_right _ (List.mem_append_right _ (List.mem_append_right _ (List.mem_append_left _ (List.mem_of_getElem? (i := 105) rfl))))))) rfl
set_option maxRecDepth 20000 in
theorem kw1128 : Cond.methodLink "MeasureBookModel" 165 yX11_at ∈ xW := xW_of (List.mem_append_right _ (List.mem_append_right _ (List.mem_append_right _ (List.mem_append_right _ (List.mem_append_right _ (List.mem_append_left _ (List.mem_of_getElem? (i := 106) rfl))))))) rfl
set_option maxRecDepth 20000 in
theorem kw1130 : Cond.instanceMethod yX11_at ∈ xW := xW_of (List.mem_append_right _ (List.mem_append_right _ (List.mem_append_right _ (List.mem_append_right _ (List.mem_append_right _ (List.mem_append_left _ (List.mem_of_getElem? (i := 108) rfl))))))) rfl
set_option maxRecDepth 20000 in
theorem kw1131 : Cond.code yX11_at cX11_at 2 (some .int) ∈ xW := xW_of (List.mem_append_right _ (List.mem_append_right _ (List.mem_append_right _ (List.mem_append_right _ (List.mem_append_right _ (List.mem_append_left _ (List.mem_of_getElem? (i := 109) rfl))))))) rfl
set_option maxRecDepth 20000 in
theorem kw1132 : Cond.methodLink "MeasureBookModel" 177 yX11_isLetter ∈ xW := xW_of (List.mem_append_right _ (List.mem_append_right _ (List.mem_append_right _ (List.mem_append_right _ (List.mem_append_right _ (List.mem_append_left _ (List.mem_of_getElem? (i := 110) rfl))))))) rfl
set_option maxRecDepth 20000 in
theorem kw1133 : Cond.static yX11_isLetter ∈ xW := xW_of (List.mem_append_right _ (List.mem_append_right _ (List.mem_append_right _ (List.mem_append_right _ (List.mem_append_right _ (List.mem_append_left _ (List.mem_of_getElem? (i := 111) rfl))))))) rfl
set_option maxRecDepth 20000 in
theorem kw1134 : Cond.code yX11_isLetter cX11_isLetter 1 (some .boolean) ∈ xW := xW_of (List.mem_append_right _ (List.mem_append_right _ (List.mem_append_right _ (List.mem_append_right _ (List.mem_append_right _ (List.mem_append_left _ (List.mem_of_getElem? (i := 112) rfl))))))) rfl
set_option maxRecDepth 20000 in
theorem kw1135 : Cond.methodLink "MeasureBookModel" 180 yX11_isDigit ∈ xW := xW_of (List.mem_append_right _ (List.mem_append_right _ (List.mem_append_right _ (List.mem_append_right _ (List.mem_append_right _ (List.mem_append_left _ (List.mem_of_getElem? (i := 113) rfl))))))) rfl
set_option maxRecDepth 20000 in
theorem kw1136 : Cond.static yX11_isDigit ∈ xW := xW_of (List.mem_append_right _ (List.mem_append_right _ (List.mem_append_right _ (List.mem_append_right _ (List.mem_append_right _ (List.mem_append_left _ (List.mem_of_getElem? (i := 114) rfl))))))) rfl
set_option maxRecDepth 20000 in
theorem kw1137 : Cond.code yX11_isDigit cX11_isDigit 1 (some .boolean) ∈ xW := xW_of (List.mem_append_right _ (List.mem_append_right _ (List.mem_append_right _ (List.mem_append_right _ (List.mem_append_right _ (List.mem_append_left _ (List.mem_of_getElem? (i := 115) rfl))))))) rfl
set_option maxRecDepth 20000 in
theorem kw1138 : Cond.methodLink "MeasureBookModel" 183 yX11_number ∈ xW := xW_of (List.mem_append_right _ (List.mem_append_right _ (List.mem_append_right _ (List.mem_append_right _ (List.mem_append_right _ (List.mem_append_left _ (List.mem_of_getElem? (i := 116) rfl))))))) rfl
set_option maxRecDepth 20000 in
theorem kw1140 : Cond.instanceMethod yX11_number ∈ xW := xW_of (List.mem_append_right _ (List.mem_append_right _ (List.mem_append_right _ (List.mem_append_right _ (List.mem_append_right _ (List.mem_append_left _ (List.mem_of_getElem? (i := 118) rfl))))))) rfl
set_option maxRecDepth 20000 in
theorem kw1141 : Cond.code yX11_number cX11_number 6 (some .int) ∈ xW := xW_of (List.mem_append_right _ (List.mem_append_right _ (List.mem_append_right _ (List.mem_append_right _ (List.mem_append_right _ (List.mem_append_left _ (List.mem_of_getElem? (i := 119) rfl))))))) rfl
set_option maxRecDepth 20000 in
theorem kw1142 : Cond.methodLink "MeasureBookModel" 292 yX11_lineFails ∈ xW := xW_of (List.mem_append_right _ (List.mem_append_right _ (List.mem_append_right _ (List.mem_append_right _ (List.mem_append_right _ (List.mem_append_left _ (List.mem_of_getElem? (i := 120) rfl))))))) rfl
set_option maxRecDepth 20000 in
theorem kw1144 : Cond.instanceMethod yX11_lineFails ∈ xW := xW_of (List.mem_append_right _ (List.mem_append_right _ (List.mem_append_right _ (List.mem_append_right _ (List.mem_append_right _ (List.mem_append_left _ (List.mem_of_getElem? (i := 122) rfl))))))) rfl
set_option maxRecDepth 20000 in
theorem kw1145 : Cond.code yX11_lineFails cX11_lineFails 3 none ∈ xW := xW_of (List.mem_append_right _ (List.mem_append_right _ (List.mem_append_right _ (List.mem_append_right _ (List.mem_append_right _ (List.mem_append_left _ (List.mem_of_getElem? (i := 123) rfl))))))) rfl
set_option maxRecDepth 20000 in
theorem kw1146 : Cond.methodLink "MeasureBookModel" 234 yX11_isSign ∈ xW := xW_of (List.mem_append_right _ (List.mem_append_right _ (List.mem_append_right _ (List.mem_append_right _ (List.mem_append_right _ (List.mem_append_left _ (List.mem_of_getElem? (i := 124) rfl))))))) rfl
set_option maxRecDepth 20000 in
theorem kw1148 : Cond.instanceMethod yX11_isSign ∈ xW := xW_of (List.mem_append_right _ (List.mem_append_right _ (List.mem_append_right _ (List.mem_append_right _ (List.mem_append_right _ (List.mem_append_left _ (List.mem_of_getElem? (i := 126) rfl))))))) rfl
set_option maxRecDepth 20000 in
theorem kw1149 : Cond.code yX11_isSign cX11_isSign 2 (some .boolean) ∈ xW := xW_of (List.mem_append_right _ (List.mem_append_right _ (List.mem_append_right _ (List.mem_append_right _ (List.mem_append_right _ (List.mem_append_left _ (List.mem_of_getElem? (i := 127) rfl))))))) rfl
set_option maxRecDepth 20000 in
theorem kw1150 : Cond.methodLink "MeasureBookModel" 274 yX11_expression ∈ xW := xW_of (List.mem_append_right _ (List.mem_append_right _ (List.mem_append_right _ (List.mem_append_right _ (List.mem_append_right _ (List.mem_append_left _ (List.mem_of_getElem? (i := 128) rfl))))))) rfl
set_option maxRecDepth 20000 in
theorem kw1152 : Cond.instanceMethod yX11_expression ∈ xW := xW_of (List.mem_append_right _ (List.mem_append_right _ (List.mem_append_right _ (List.mem_append_right _ (List.mem_append_right _ (List.mem_append_left _ (List.mem_of_getElem? (i := 130) rfl))))))) rfl
set_option maxRecDepth 20000 in
theorem kw1153 : Cond.code yX11_expression cX11_expression 6 (some .int) ∈ xW := xW_of (List.mem_append_right _ (List.mem_append_right _ (List.mem_append_right _ (List.mem_append_right _ (List.mem_append_right _ (List.mem_append_left _ (List.mem_of_getElem? (i := 131) rfl))))))) rfl
set_option maxRecDepth 20000 in
theorem kw1154 : Cond.methodLink "MeasureBookModel" 249 yX11_open ∈ xW := xW_of (List.mem_append_right _ (List.mem_append_right _ (List.mem_append_right _ (List.mem_append_right _ (List.mem_append_right _ (List.mem_append_left _ (List.mem_of_getElem? (i := 132) rfl))))))) rfl
set_option maxRecDepth 20000 in
theorem kw1156 : Cond.instanceMethod yX11_open ∈ xW := xW_of (List.mem_append_right _ (List.mem_append_right _ (List.mem_append_right _ (List.mem_append_right _ (List.mem_append_right _ (List.mem_append_left _ (List.mem_of_getElem? (i := 134) rfl))))))) rfl
set_option maxRecDepth 20000 in
theorem kw1157 : Cond.code yX11_open cX11_open 1 none ∈ xW := xW_of (List.mem_append_right _ (List.mem_append_right _ (List.mem_append_right _ (List.mem_append_right _ (List.mem_append_right _ (List.mem_append_left _ (List.mem_of_getElem? (i := 135) rfl))))))) rfl
set_option maxRecDepth 20000 in
theorem kw1158 : Cond.methodLink "MeasureBookModel" 252 yX11_readNumber ∈ xW := xW_of (List.mem_append_right _ (List.mem_append_right _ (List.mem_append_right _ (List.mem_append_right _ (List.mem_append_right _ (List.mem_append_left _ (List.mem_of_getElem? (i := 136) rfl))))))) rfl
set_option maxRecDepth 20000 in
theorem kw1160 : Cond.instanceMethod yX11_readNumber ∈ xW := xW_of (List.mem_append_right _ (List.mem_append_right _ (List.mem_append_right _ (List.mem_append_right _ (List.mem_append_right _ (List.mem_append_left _ (List.mem_of_getElem? (i := 138) rfl))))))) rfl
set_option maxRecDepth 20000 in
theorem kw1161 : Cond.code yX11_readNumber cX11_readNumber 4 (some .int) ∈ xW := xW_of (List.mem_append_right _ (List.mem_append_right _ (List.mem_append_right _ (List.mem_append_right _ (List.mem_append_right _ (List.mem_append_left _ (List.mem_of_getElem? (i := 139) rfl))))))) rfl
set_option maxRecDepth 20000 in
theorem kw1162 : Cond.methodLink "MeasureBookModel" 228 yX11_numberOf ∈ xW := xW_of (List.mem_append_right _ (List.mem_append_right _ (List.mem_append_right _ (List.mem_append_right _ (List.mem_append_right _ (List.mem_append_left _ (List.mem_of_getElem? (i := 140) rfl))))))) rfl
set_option maxRecDepth 20000 in
theorem kw1164 : Cond.instanceMethod yX11_numberOf ∈ xW := xW_of (List.mem_append_right _ (List.mem_append_right _ (List.mem_append_right _ (List.mem_append_right _ (List.mem_append_right _ (List.mem_append_left _ (List.mem_of_getElem? (i := 142) rfl))))))) rfl
set_option maxRecDepth 20000 in
theorem kw1165 : Cond.code yX11_numberOf cX11_numberOf 11 (some .int) ∈ xW := xW_of (List.mem_append_right _ (List.mem_append_right _ (List.mem_append_right _ (List.mem_append_right _ (List.mem_append_right _ (List.mem_append_left _ (List.mem_of_getElem? (i := 143) rfl))))))) rfl
set_option maxRecDepth 20000 in
theorem kw1166 : Cond.methodLink "MeasureBookModel" 103 yX11_multiplySmall ∈ xW := xW_of (List.mem_append_right _ (List.mem_append_right _ (List.mem_append_right _ (List.mem_append_right _ (List.mem_append_right _ (List.mem_append_left _ (List.mem_of_getElem? (i := 144) rfl))))))) rfl
set_option maxRecDepth 20000 in
theorem kw1168 : Cond.instanceMethod yX11_multiplySmall ∈ xW := xW_of (List.mem_append_right _ (List.mem_append_right _ (List.mem_append_right _ (List.mem_append_right _ (List.mem_append_right _ (List.mem_append_left _ (List.mem_of_getElem? (i := 146) rfl))))))) rfl
set_option maxRecDepth 20000 in
theorem kw1169 : Cond.code yX11_multiplySmall cX11_multiplySmall 7 none ∈ xW := xW_of (List.mem_append_right _ (List.mem_append_right _ (List.mem_append_right _ (List.mem_append_right _ (List.mem_append_right _ (List.mem_append_left _ (List.mem_of_getElem? (i := 147) rfl))))))) rfl
set_option maxRecDepth 20000 in
theorem kw1170 : Cond.constant "MeasureBookModel" 92 32768 ∈ xW := xW_of (List.mem_append_right _ (List.mem_append_right _ (List.mem_append_right _ (List.mem_append_right _ (List.mem_append_right _ (List.mem_append_left _ (List.mem_of_getElem? (i := 148) rfl))))))) rfl
set_option maxRecDepth 20000 in
theorem kw1171 : Cond.methodLink "MeasureBookModel" 130 yX11_isZero ∈ xW := xW_of (List.mem_append_right _ (List.mem_append_right _ (List.mem_append_right _ (List.mem_append_right _ (List.mem_append_right _ (List.mem_append_left _ (List.mem_of_getElem? (i := 149) rfl))))))) rfl
set_option maxRecDepth 20000 in
theorem kw1173 : Cond.instanceMethod yX11_isZero ∈ xW := xW_of (List.mem_append_right _ (List.mem_append_right _ (List.mem_append_right _ (List.mem_append_right _ (List.mem_append_right _ (List.mem_append_left _ (List.mem_of_getElem? (i := 151) rfl))))))) rfl
set_option maxRecDepth 20000 in
theorem kw1174 : Cond.code yX11_isZero cX11_isZero 3 (some .boolean) ∈ xW := xW_of (List.mem_append_right _ (List.mem_append_right _ (List.mem_append_right _ (List.mem_append_right _ (List.mem_append_right _ (List.mem_append_left _ (List.mem_of_getElem? (i := 152) rfl))))))) rfl
set_option maxRecDepth 20000 in
theorem kw1175 : Cond.methodLink "MeasureBookModel" 145 yX11_reduce ∈ xW := xW_of (List.mem_append_right _ (List.mem_append_right _ (List.mem_append_right _ (List.mem_append_right _ (List.mem_append_right _ (List.mem_append_left _ (List.mem_of_getElem? (i := 153) rfl))))))) rfl
set_option maxRecDepth 20000 in
theorem kw1177 : Cond.instanceMethod yX11_reduce ∈ xW := xW_of (List.mem_append_right _ (List.mem_append_right _ (List.mem_append_right _ (List.mem_append_right _ (List.mem_append_right _ (List.mem_append_left _ (List.mem_of_getElem? (i := 155) rfl))))))) rfl
set_option maxRecDepth 20000 in
theorem kw1178 : Cond.code yX11_reduce cX11_reduce 2 none ∈ xW := xW_of (List.mem_append_right _ (List.mem_append_right _ (List.mem_append_right _ (List.mem_append_right _ (List.mem_append_right _ (List.mem_append_left _ (List.mem_of_getElem? (i := 156) rfl))))))) rfl
set_option maxRecDepth 20000 in
theorem kw1179 : Cond.methodLink "MeasureBookModel" 133 yX11_common ∈ xW := xW_of (List.mem_append_right _ (List.mem_append_right _ (List.mem_append_right _ (List.mem_append_right _ (List.mem_append_right _ (List.mem_append_left _ (List.mem_of_getElem? (i := 157) rfl))))))) rfl
set_option maxRecDepth 20000 in
theorem kw1181 : Cond.instanceMethod yX11_common ∈ xW := xW_of (List.mem_append_right _ (List.mem_append_right _ (List.mem_append_right _ (List.mem_append_right _ (List.mem_append_right _ (List.mem_append_left _ (List.mem_of_getElem? (i := 159) rfl))))))) rfl
set_option maxRecDepth 20000 in
theorem kw1182 : Cond.code yX11_common cX11_common 6 none ∈ xW := xW_of (List.mem_append_right _ (List.mem_append_right _ (List.mem_append_right _ (List.mem_append_right _ (List.mem_append_right _ (List.mem_append_left _ (List.mem_of_getElem? (i := 160) rfl))))))) rfl
set_option maxRecDepth 20000 in
theorem kw1183 : Cond.methodLink "MeasureBookModel" 117 yX11_isOne ∈ xW := xW_of (List.mem_append_right _ (List.mem_append_right _ (List.mem_append_right _ (List.mem_append_right _ (List.mem_append_right _ (List.mem_append_left _ (List.mem_of_getElem? (i := 161) rfl))))))) rfl
set_option maxRecDepth 20000 in
theorem kw1185 : Cond.instanceMethod yX11_isOne ∈ xW := xW_of (List.mem_append_right _ (List.mem_append_right _ (List.mem_append_right _ (List.mem_append_right _ (List.mem_append_right _ (List.mem_append_left _ (List.mem_of_getElem? (i := 163) rfl))))))) rfl
set_option maxRecDepth 20000 in
theorem kw1186 : Cond.code yX11_isOne cX11_isOne 3 (some .boolean) ∈ xW := xW_of (List.mem_append_right _ (List.mem_append_right _ (List.mem_append_right _ (List.mem_append_right _ (List.mem_append_right _ (List.mem_append_left _ (List.mem_of_getElem? (i := 164) rfl))))))) rfl
set_option maxRecDepth 20000 in
theorem kw1187 : Cond.methodLink "MeasureBookModel" 121 yX11_copy ∈ xW := xW_of (List.mem_append_right _ (List.mem_append_right _ (List.mem_append_right _ (List.mem_append_right _ (List.mem_append_right _ (List.mem_append_left _ (List.mem_of_getElem? (i := 165) rfl))))))) rfl
set_option maxRecDepth 20000 in
theorem kw1189 : Cond.instanceMethod yX11_copy ∈ xW := xW_of (List.mem_append_right _ (List.mem_append_right _ (List.mem_append_right _ (List.mem_append_right _ (List.mem_append_right _ (List.mem_append_left _ (List.mem_of_getElem? (i := 167) rfl))))))) rfl
set_option maxRecDepth 20000 in
theorem kw1190 : Cond.code yX11_copy cX11_copy 4 none ∈ xW := xW_of (List.mem_append_right _ (List.mem_append_right _ (List.mem_append_right _ (List.mem_append_right _ (List.mem_append_right _ (List.mem_append_left _ (List.mem_of_getElem? (i := 168) rfl))))))) rfl
set_option maxRecDepth 20000 in
theorem kw1191 : Cond.methodLink "MeasureBookModel" 124 yX11_isEven ∈ xW := xW_of (List.mem_append_right _ (List.mem_append_right _ (List.mem_append_right _ (List.mem_append_right _ (List.mem_append_right _ (List.mem_append_left _ (List.mem_of_getElem? (i := 169) rfl))))))) rfl
set_option maxRecDepth 20000 in
theorem kw1193 : Cond.instanceMethod yX11_isEven ∈ xW := xW_of (List.mem_append_right _ (List.mem_append_right _ (List.mem_append_right _ (List.mem_append_right _ (List.mem_append_right _ (List.mem_append_left _ (List.mem_of_getElem? (i := 171) rfl))))))) rfl
set_option maxRecDepth 20000 in
theorem kw1194 : Cond.code yX11_isEven cX11_isEven 2 (some .boolean) ∈ xW := xW_of (List.mem_append_right _ (List.mem_append_right _ (List.mem_append_right _ (List.mem_append_right _ (List.mem_append_right _ (List.mem_append_left _ (List.mem_of_getElem? (i := 172) rfl))))))) rfl
set_option maxRecDepth 20000 in
theorem kw1195 : Cond.methodLink "MeasureBookModel" 127 yX11_divideSmall ∈ xW := xW_of (List.mem_append_right _ (List.mem_append_right _ (List.mem_append_right _ (List.mem_append_right _ (List.mem_append_right _ (List.mem_append_left _ (List.mem_of_getElem? (i := 173) rfl))))))) rfl
set_option maxRecDepth 20000 in
theorem kw1197 : Cond.instanceMethod yX11_divideSmall ∈ xW := xW_of (List.mem_append_right _ (List.mem_append_right _ (List.mem_append_right _ (List.mem_append_right _ (List.mem_append_right _ (List.mem_append_left _ (List.mem_of_getElem? (i := 175) rfl))))))) rfl
set_option maxRecDepth 20000 in
theorem kw1198 : Cond.code yX11_divideSmall cX11_divideSmall 6 (some .int) ∈ xW := xW_of (List.mem_append_right _ (List.mem_append_right _ (List.mem_append_right _ (List.mem_append_right _ (List.mem_append_right _ (List.mem_append_left _ (List.mem_of_getElem? (i := 176) rfl))))))) rfl
set_option maxRecDepth 20000 in
theorem kw1199 : Cond.methodLink "MeasureBookModel" 107 yX11_compare ∈ xW := xW_of (List.mem_append_right _ (List.mem_append_right _ (List.mem_append_right _ (List.mem_append_right _ (List.mem_append_right _ (List.mem_append_left _ (List.mem_of_getElem? (i := 177) rfl))))))) rfl
set_option maxRecDepth 20000 in
theorem kw1201 : Cond.instanceMethod yX11_compare ∈ xW := xW_of (List.mem_append_right _ (List.mem_append_right _ (List.mem_append_right _ (List.mem_append_right _ (List.mem_append_right _ (List.mem_append_left _ (List.mem_of_getElem? (i := 179) rfl))))))) rfl
set_option maxRecDepth 20000 in
theorem kw1202 : Cond.code yX11_compare cX11_compare 6 (some .int) ∈ xW := xW_of (List.mem_append_right _ (List.mem_append_right _ (List.mem_append_right _ (List.mem_append_right _ (List.mem_append_right _ (List.mem_append_left _ (List.mem_of_getElem? (i := 180) rfl))))))) rfl
set_option maxRecDepth 20000 in
theorem kw1203 : Cond.methodLink "MeasureBookModel" 110 yX11_subtract ∈ xW := xW_of (List.mem_append_right _ (List.mem_append_right _ (List.mem_append_right _ (List.mem_append_right _ (List.mem_append_right _ (List.mem_append_left _ (List.mem_of_getElem? (i := 181) rfl))))))) rfl
set_option maxRecDepth 20000 in
theorem kw1205 : Cond.instanceMethod yX11_subtract ∈ xW := xW_of (List.mem_append_right _ (List.mem_append_right _ (List.mem_append_right _ (List.mem_append_right _ (List.mem_append_right _ (List.mem_append_left _ (List.mem_of_getElem? (i := 183) rfl))))))) rfl
set_option maxRecDepth 20000 in
theorem kw1206 : Cond.code yX11_subtract cX11_subtract 6 none ∈ xW := xW_of (List.mem_append_right _ (List.mem_append_right _ (List.mem_append_right _ (List.mem_append_right _ (List.mem_append_right _ (List.mem_append_left _ (List.mem_of_getElem? (i := 184) rfl))))))) rfl
set_option maxRecDepth 20000 in
theorem kw1207 : Cond.methodLink "MeasureBookModel" 136 yX11_divide ∈ xW := xW_of (List.mem_append_right _ (List.mem_append_right _ (List.mem_append_right _ (List.mem_append_right _ (List.mem_append_right _ (List.mem_append_left _ (List.mem_of_getElem? (i := 185) rfl))))))) rfl
set_option maxRecDepth 20000 in
theorem kw1209 : Cond.instanceMethod yX11_divide ∈ xW := xW_of (List.mem_append_right _ (List.mem_append_right _ (List.mem_append_right _ (List.mem_append_right _ (List.mem_append_right _ (List.mem_append_left _ (List.mem_of_getElem? (i := 187) rfl))))))) rfl
set_option maxRecDepth 20000 in
theorem kw1210 : Cond.code yX11_divide cX11_divide 5 none ∈ xW := xW_of (List.mem_append_right _ (List.mem_append_right _ (List.mem_append_right _ (List.mem_append_right _ (List.mem_append_right _ (List.mem_append_left _ (List.mem_of_getElem? (i := 188) rfl))))))) rfl
set_option maxRecDepth 20000 in
theorem kw1211 : Cond.methodLink "MeasureBookModel" 95 yX11_length ∈ xW := xW_of (List.mem_append_right _ (List.mem_append_right _ (List.mem_append_right _ (List.mem_append_right _ (List.mem_append_right _ (List.mem_append_left _ (List.mem_of_getElem? (i := 189) rfl))))))) rfl
set_option maxRecDepth 20000 in
theorem kw1213 : Cond.instanceMethod yX11_length ∈ xW := xW_of (List.mem_append_right _ (List.mem_append_right _ (List.mem_append_right _ (List.mem_append_right _ (List.mem_append_right _ (List.mem_append_left _ (List.mem_of_getElem? (i := 191) rfl))))))) rfl
set_option maxRecDepth 20000 in
theorem kw1214 : Cond.code yX11_length cX11_length 5 (some .int) ∈ xW := xW_of (List.mem_append_right _ (List.mem_append_right _ (List.mem_append_right _ (List.mem_append_right _ (List.mem_append_right _ (List.mem_append_left _ (List.mem_of_getElem? (i := 192) rfl))))))) rfl
set_option maxRecDepth 20000 in
theorem kw1215 : Cond.methodLink "MeasureBookModel" 99 yX11_bit ∈ xW := xW_of (List.mem_append_right _ (List.mem_append_right _ (List.mem_append_right _ (List.mem_append_right _ (List.mem_append_right _ (List.mem_append_left _ (List.mem_of_getElem? (i := 193) rfl))))))) rfl
set_option maxRecDepth 20000 in
theorem kw1217 : Cond.instanceMethod yX11_bit ∈ xW := xW_of (List.mem_append_right _ (List.mem_append_right _ (List.mem_append_right _ (List.mem_append_right _ (List.mem_append_right _ (List.mem_append_left _ (List.mem_of_getElem? (i := 195) rfl))))))) rfl
set_option maxRecDepth 20000 in
theorem kw1218 : Cond.code yX11_bit cX11_bit 3 (some .int) ∈ xW := xW_of (List.mem_append_right _ (List.mem_append_right _ (List.mem_append_right _ (List.mem_append_right _ (List.mem_append_right _ (List.mem_append_left _ (List.mem_of_getElem? (i := 196) rfl))))))) rfl
set_option maxRecDepth 20000 in
theorem kw1219 : Cond.methodLink "MeasureBookModel" 148 yX11_isLarge ∈ xW := xW_of (List.mem_append_right _ (List.mem_append_right _ (List.mem_append_right _ (List.mem_append_right _ (List.mem_append_right _ (List.mem_append_left _ (List.mem_of_getElem? (i := 197) rfl))))))) rfl
set_option maxRecDepth 20000 in
theorem kw1221 : Cond.instanceMethod yX11_isLarge ∈ xW := xW_of (List.mem_append_right _ (List.mem_append_right _ (List.mem_append_right _ (List.mem_append_right _ (List.mem_append_right _ (List.mem_append_left _ (List.mem_of_getElem? (i := 199) rfl))))))) rfl
set_option maxRecDepth 20000 in
theorem kw1222 : Cond.code yX11_isLarge cX11_isLarge 2 (some .boolean) ∈ xW := xW_of (List.mem_append_right _ (List.mem_append_right _ (List.mem_append_right _ (List.mem_append_right _ (List.mem_append_right _ (List.mem_append_left _ (List.mem_of_getElem? (i := 200) rfl))))))) rfl
set_option maxRecDepth 20000 in
theorem kw1223 : Cond.methodLink "MeasureBookModel" 219 yX11_fails ∈ xW := xW_of (List.mem_append_right _ (List.mem_append_right _ (List.mem_append_right _ (List.mem_append_right _ (List.mem_append_right _ (List.mem_append_left _ (List.mem_of_getElem? (i := 201) rfl))))))) rfl
set_option maxRecDepth 20000 in
theorem kw1225 : Cond.instanceMethod yX11_fails ∈ xW := xW_of (List.mem_append_right _ (List.mem_append_right _ (List.mem_append_right _ (List.mem_append_right _ (List.mem_append_right _ (List.mem_append_left _ (List.mem_of_getElem? (i := 203) rfl))))))) rfl
set_option maxRecDepth 20000 in
theorem kw1226 : Cond.code yX11_fails cX11_fails 3 (some .boolean) ∈ xW := xW_of (List.mem_append_right _ (List.mem_append_right _ (List.mem_append_right _ (List.mem_append_right _ (List.mem_append_right _ (List.mem_append_left _ (List.mem_of_getElem? (i := 204) rfl))))))) rfl
set_option maxRecDepth 20000 in
theorem kw1227 : Cond.methodLink "MeasureBookModel" 215 yX11_product ∈ xW := xW_of (List.mem_append_right _ (List.mem_append_right _ (List.mem_append_right _ (List.mem_append_right _ (List.mem_append_right _ (List.mem_append_left _ (List.mem_of_getElem? (i := 205) rfl))))))) rfl
set_option maxRecDepth 20000 in
theorem kw1229 : Cond.instanceMethod yX11_product ∈ xW := xW_of (List.mem_append_right _ (List.mem_append_right _ (List.mem_append_right _ (List.mem_append_right _ (List.mem_append_right _ (List.mem_append_left _ (List.mem_of_getElem? (i := 207) rfl))))))) rfl
set_option maxRecDepth 20000 in
theorem kw1230 : Cond.code yX11_product cX11_product 5 (some .int) ∈ xW := xW_of (List.mem_append_right _ (List.mem_append_right _ (List.mem_append_right _ (List.mem_append_right _ (List.mem_append_right _ (List.mem_append_left _ (List.mem_of_getElem? (i := 208) rfl))))))) rfl
set_option maxRecDepth 20000 in
theorem kw1231 : Cond.methodLink "MeasureBookModel" 139 yX11_arePowers ∈ xW := xW_of (List.mem_append_right _ (List.mem_append_right _ (List.mem_append_right _ (List.mem_append_right _ (List.mem_append_right _ (List.mem_append_left _ (List.mem_of_getElem? (i := 209) rfl))))))) rfl
set_option maxRecDepth 20000 in
theorem kw1233 : Cond.instanceMethod yX11_arePowers ∈ xW := xW_of (List.mem_append_right _ (List.mem_append_right _ (List.mem_append_right _ (List.mem_append_right _ (List.mem_append_right _ (List.mem_append_left _ (List.mem_of_getElem? (i := 211) rfl))))))) rfl
set_option maxRecDepth 20000 in
theorem kw1234 : Cond.code yX11_arePowers cX11_arePowers 3 (some .boolean) ∈ xW := xW_of (List.mem_append_right _ (List.mem_append_right _ (List.mem_append_right _ (List.mem_append_right _ (List.mem_append_right _ (List.mem_append_left _ (List.mem_of_getElem? (i := 212) rfl))))))) rfl
set_option maxRecDepth 20000 in
theorem kw1235 : Cond.methodLink "MeasureBookModel" 142 yX11_multiply ∈ xW := xW_of (List.mem_append_right _ (List.mem_append_right _ (List.mem_append_right _ (List.mem_append_right _ (List.mem_append_right _ (List.mem_append_left _ (List.mem_of_getElem? (i := 213) rfl))))))) rfl
set_option maxRecDepth 20000 in
theorem kw1237 : Cond.instanceMethod yX11_multiply ∈ xW := xW_of (List.mem_append_right _ (List.mem_append_right _ (List.mem_append_right _ (List.mem_append_right _ (List.mem_append_right _ (List.mem_append_left _ (List.mem_of_getElem? (i := 215) rfl))))))) rfl
set_option maxRecDepth 20000 in
theorem kw1238 : Cond.code yX11_multiply cX11_multiply 11 none ∈ xW := xW_of (List.mem_append_right _ (List.mem_append_right _ (List.mem_append_right _ (List.mem_append_right _ (List.mem_append_right _ (List.mem_append_left _ (List.mem_of_getElem? (i := 216) rfl))))))) rfl
set_option maxRecDepth 20000 in
theorem kw1239 : Cond.constantLong "MeasureBookModel" 93 32768 ∈ xW := xW_of (List.mem_append_right _ (List.mem_append_right _ (List.mem_append_right _ (List.mem_append_right _ (List.mem_append_right _ (List.mem_append_left _ (List.mem_of_getElem? (i := 217) rfl))))))) rfl
set_option maxRecDepth 20000 in
theorem kw1240 : Cond.methodLink "MeasureBookModel" 256 yX11_readName ∈ xW := xW_of (List.mem_append_right _ (List.mem_append_right _ (List.mem_append_right _ (List.mem_append_right _ (List.mem_append_right _ (List.mem_append_left _ (List.mem_of_getElem? (i := 218) rfl))))))) rfl
set_option maxRecDepth 20000 in
theorem kw1242 : Cond.instanceMethod yX11_readName ∈ xW := xW_of (List.mem_append_right _ (List.mem_append_right _ (List.mem_append_right _ (List.mem_append_right _ (List.mem_append_right _ (List.mem_append_left _ (List.mem_of_getElem? (i := 220) rfl))))))) rfl
set_option maxRecDepth 20000 in
theorem kw1243 : Cond.code yX11_readName cX11_readName 1 none ∈ xW := xW_of (List.mem_append_right _ (List.mem_append_right _ (List.mem_append_right _ (List.mem_append_right _ (List.mem_append_right _ (List.mem_append_left _ (List.mem_of_getElem? (i := 221) rfl))))))) rfl
set_option maxRecDepth 20000 in
theorem kw1244 : Cond.methodLink "MeasureBookModel" 240 yX11_standsFor ∈ xW := xW_of (List.mem_append_right _ (List.mem_append_right _ (List.mem_append_right _ (List.mem_append_right _ (List.mem_append_right _ (List.mem_append_left _ (List.mem_of_getElem? (i := 222) rfl))))))) rfl
set_option maxRecDepth 20000 in
theorem kw1246 : Cond.instanceMethod yX11_standsFor ∈ xW := xW_of (List.mem_append_right _ (List.mem_append_right _ (List.mem_append_right _ (List.mem_append_right _ (List.mem_append_right _ (List.mem_append_left _ (List.mem_of_getElem? (i := 224) rfl))))))) rfl
set_option maxRecDepth 20000 in
theorem kw1247 : Cond.code yX11_standsFor cX11_standsFor 7 none ∈ xW := xW_of (List.mem_append_right _ (List.mem_append_right _ (List.mem_append_right _ (List.mem_append_right _ (List.mem_append_right _ (List.mem_append_left _ (List.mem_of_getElem? (i := 225) rfl))))))) rfl
set_option maxRecDepth 20000 in
theorem kw1248 : Cond.methodLink "MeasureBookModel" 197 yX11_measureOrMany ∈ xW := xW_of (List.mem_append_right _ (List.mem_append_right _ (List.mem_append_right _ (List.mem_append_right _ (List.mem_append_right _ (List.mem_append_left _ (List.mem_of_getElem? (i := 226) rfl))))))) rfl
set_option maxRecDepth 20000 in
theorem kw1250 : Cond.instanceMethod yX11_measureOrMany ∈ xW := xW_of (List.mem_append_right _ (List.mem_append_right _ (List.mem_append_right _ (List.mem_append_right _ (List.mem_append_right _ (List.mem_append_left _ (List.mem_of_getElem? (i := 228) rfl))))))) rfl
set_option maxRecDepth 20000 in
theorem kw1251 : Cond.code yX11_measureOrMany cX11_measureOrMany 5 (some .int) ∈ xW := xW_of (List.mem_append_right _ (List.mem_append_right _ (List.mem_append_right _ (List.mem_append_right _ (List.mem_append_right _ (List.mem_append_left _ (List.mem_of_getElem? (i := 229) rfl))))))) rfl
set_option maxRecDepth 20000 in
theorem kw1252 : Cond.methodLink "MeasureBookModel" 190 yX11_measure ∈ xW := xW_of (List.mem_append_right _ (List.mem_append_right _ (List.mem_append_right _ (List.mem_append_right _ (List.mem_append_right _ (List.mem_append_left _ (List.mem_of_getElem? (i := 230) rfl))))))) rfl
set_option maxRecDepth 20000 in
theorem kw1254 : Cond.instanceMethod yX11_measure ∈ xW := xW_of (List.mem_append_right _ (List.mem_append_right _ (List.mem_append_right _ (List.mem_append_right _ (List.mem_append_right _ (List.mem_append_left _ (List.mem_of_getElem? (i := 232) rfl))))))) rfl
set_option maxRecDepth 20000 in
theorem kw1255 : Cond.code yX11_measure cX11_measure 5 (some .int) ∈ xW := xW_of (List.mem_append_right _ (List.mem_append_right _ (List.mem_append_right _ (List.mem_append_right _ (List.mem_append_right _ (List.mem_append_left _ (List.mem_of_getElem? (i := 233) rfl))))))) rfl
set_option maxRecDepth 20000 in
theorem kw1256 : Cond.methodLink "MeasureBookModel" 186 yX11_isNamed ∈ xW := xW_of (List.mem_append_right _ (List.mem_append_right _ (List.mem_append_right _ (List.mem_append_right _ (List.mem_append_right _ (List.mem_append_left _ (List.mem_of_getElem? (i := 234) rfl))))))) rfl
set_option maxRecDepth 20000 in
theorem kw1258 : Cond.instanceMethod yX11_isNamed ∈ xW := xW_of (List.mem_append_right _ (List.mem_append_right _ (List.mem_append_right _ (List.mem_append_right _ (List.mem_append_right _ (List.mem_append_left _ (List.mem_of_getElem? (i := 236) rfl))))))) rfl
set_option maxRecDepth 20000 in
theorem kw1259 : Cond.code yX11_isNamed cX11_isNamed 5 (some .boolean) ∈ xW := xW_of (List.mem_append_right _ (List.mem_append_right _ (List.mem_append_right _ (List.mem_append_right _ (List.mem_append_right _ (List.mem_append_left _ (List.mem_of_getElem? (i := 237) rfl))))))) rfl
set_option maxRecDepth 20000 in
theorem kw1260 : Cond.methodLink "MeasureBookModel" 222 yX11_take ∈ xW := xW_of (List.mem_append_right _ (List.mem_append_right _ (List.mem_append_right _ (List.mem_append_right _ (List.mem_append_right _ (List.mem_append_left _ (List.mem_of_getElem? (i := 238) rfl))))))) rfl
set_option maxRecDepth 20000 in
theorem kw1262 : Cond.instanceMethod yX11_take ∈ xW := xW_of (List.mem_append_right _ (List.mem_append_right _ (List.mem_append_right _ (List.mem_append_right _ (List.mem_append_right _ (List.mem_append_right _ (List.mem_of_getElem? (i := 0) rfl))))))) rfl
set_option maxRecDepth 20000 in
theorem kw1263 : Cond.code yX11_take cX11_take 4 none ∈ xW := xW_of (List.mem_append_right _ (List.mem_append_right _ (List.mem_append_right _ (List.mem_append_right _ (List.mem_append_right _ (List.mem_append_right _ (List.mem_of_getElem? (i := 1) rfl))))))) rfl
set_option maxRecDepth 20000 in
theorem kw1264 : Cond.methodLink "MeasureBookModel" 259 yX11_readRaise ∈ xW := xW_of (List.mem_append_right _ (List.mem_append_right _ (List.mem_append_right _ (List.mem_append_right _ (List.mem_append_right _ (List.mem_append_right _ (List.mem_of_getElem? (i := 2) rfl))))))) rfl
set_option maxRecDepth 20000 in
theorem kw1266 : Cond.instanceMethod yX11_readRaise ∈ xW := xW_of (List.mem_append_right _ (List.mem_append_right _ (List.mem_append_right _ (List.mem_append_right _ (List.mem_append_right _ (List.mem_append_right _ (List.mem_of_getElem? (i := 4) rfl))))))) rfl
set_option maxRecDepth 20000 in
theorem kw1267 : Cond.code yX11_readRaise cX11_readRaise 6 (some .int) ∈ xW := xW_of (List.mem_append_right _ (List.mem_append_right _ (List.mem_append_right _ (List.mem_append_right _ (List.mem_append_right _ (List.mem_append_right _ (List.mem_of_getElem? (i := 5) rfl))))))) rfl
set_option maxRecDepth 20000 in
theorem kw1268 : Cond.methodLink "MeasureBookModel" 246 yX11_raise ∈ xW := xW_of (List.mem_append_right _ (List.mem_append_right _ (List.mem_append_right _ (List.mem_append_right _ (List.mem_append_right _ (List.mem_append_right _ (List.mem_of_getElem? (i := 6) rfl))))))) rfl
set_option maxRecDepth 20000 in
theorem kw1270 : Cond.instanceMethod yX11_raise ∈ xW := xW_of (List.mem_append_right _ (List.mem_append_right _ (List.mem_append_right _ (List.mem_append_right _ (List.mem_append_right _ (List.mem_append_right _ (List.mem_of_getElem? (i := 8) rfl))))))) rfl
set_option maxRecDepth 20000 in
theorem kw1271 : Cond.code yX11_raise cX11_raise 6 (some .int) ∈ xW := xW_of (List.mem_append_right _ (List.mem_append_right _ (List.mem_append_right _ (List.mem_append_right _ (List.mem_append_right _ (List.mem_append_right _ (List.mem_of_getElem? (i := 9) rfl))))))) rfl
set_option maxRecDepth 20000 in
theorem kw1272 : Cond.methodLink "MeasureBookModel" 262 yX11_endPower ∈ xW := xW_of (List.mem_append_right _ (List.mem_append_right _ (List.mem_append_right _ (List.mem_append_right _ (List.mem_append_right _ (List.mem_append_right _ (List.mem_of_getElem? (i := 10) rfl))))))) rfl
set_option maxRecDepth 20000 in
theorem kw1274 : Cond.instanceMethod yX11_endPower ∈ xW := xW_of (List.mem_append_right _ (List.mem_append_right _ (List.mem_append_right _ (List.mem_append_right _ (List.mem_append_right _ (List.mem_append_right _ (List.mem_of_getElem? (i := 12) rfl))))))) rfl
set_option maxRecDepth 20000 in
theorem kw1275 : Cond.code yX11_endPower cX11_endPower 2 none ∈ xW := xW_of (List.mem_append_right _ (List.mem_append_right _ (List.mem_append_right _ (List.mem_append_right _ (List.mem_append_right _ (List.mem_append_right _ (List.mem_of_getElem? (i := 13) rfl))))))) rfl
set_option maxRecDepth 20000 in
theorem kw1276 : Cond.methodLink "MeasureBookModel" 265 yX11_endRow ∈ xW := xW_of (List.mem_append_right _ (List.mem_append_right _ (List.mem_append_right _ (List.mem_append_right _ (List.mem_append_right _ (List.mem_append_right _ (List.mem_of_getElem? (i := 14) rfl))))))) rfl
set_option maxRecDepth 20000 in
theorem kw1278 : Cond.instanceMethod yX11_endRow ∈ xW := xW_of (List.mem_append_right _ (List.mem_append_right _ (List.mem_append_right _ (List.mem_append_right _ (List.mem_append_right _ (List.mem_append_right _ (List.mem_of_getElem? (i := 16) rfl))))))) rfl
set_option maxRecDepth 20000 in
theorem kw1279 : Cond.code yX11_endRow cX11_endRow 2 none ∈ xW := xW_of (List.mem_append_right _ (List.mem_append_right _ (List.mem_append_right _ (List.mem_append_right _ (List.mem_append_right _ (List.mem_append_right _ (List.mem_of_getElem? (i := 17) rfl))))))) rfl
set_option maxRecDepth 20000 in
theorem kw1280 : Cond.methodLink "MeasureBookModel" 268 yX11_endTerm ∈ xW := xW_of (List.mem_append_right _ (List.mem_append_right _ (List.mem_append_right _ (List.mem_append_right _ (List.mem_append_right _ (List.mem_append_right _ (List.mem_of_getElem? (i := 18) rfl))))))) rfl
set_option maxRecDepth 20000 in
theorem kw1282 : Cond.instanceMethod yX11_endTerm ∈ xW := xW_of (List.mem_append_right _ (List.mem_append_right _ (List.mem_append_right _ (List.mem_append_right _ (List.mem_append_right _ (List.mem_append_right _ (List.mem_of_getElem? (i := 20) rfl))))))) rfl
set_option maxRecDepth 20000 in
theorem kw1283 : Cond.code yX11_endTerm cX11_endTerm 2 none ∈ xW := xW_of (List.mem_append_right _ (List.mem_append_right _ (List.mem_append_right _ (List.mem_append_right _ (List.mem_append_right _ (List.mem_append_right _ (List.mem_of_getElem? (i := 21) rfl))))))) rfl
set_option maxRecDepth 20000 in
theorem kw1284 : Cond.methodLink "MeasureBookModel" 225 yX11_sum ∈ xW := xW_of (List.mem_append_right _ (List.mem_append_right _ (List.mem_append_right _ (List.mem_append_right _ (List.mem_append_right _ (List.mem_append_right _ (List.mem_of_getElem? (i := 22) rfl))))))) rfl
set_option maxRecDepth 20000 in
theorem kw1286 : Cond.instanceMethod yX11_sum ∈ xW := xW_of (List.mem_append_right _ (List.mem_append_right _ (List.mem_append_right _ (List.mem_append_right _ (List.mem_append_right _ (List.mem_append_right _ (List.mem_of_getElem? (i := 24) rfl))))))) rfl
set_option maxRecDepth 20000 in
theorem kw1287 : Cond.code yX11_sum cX11_sum 5 (some .int) ∈ xW := xW_of (List.mem_append_right _ (List.mem_append_right _ (List.mem_append_right _ (List.mem_append_right _ (List.mem_append_right _ (List.mem_append_right _ (List.mem_of_getElem? (i := 25) rfl))))))) rfl
set_option maxRecDepth 20000 in
theorem kw1288 : Cond.methodLink "MeasureBookModel" 151 yX11_areAlike ∈ xW := xW_of (List.mem_append_right _ (List.mem_append_right _ (List.mem_append_right _ (List.mem_append_right _ (List.mem_append_right _ (List.mem_append_right _ (List.mem_of_getElem? (i := 26) rfl))))))) rfl
set_option maxRecDepth 20000 in
theorem kw1290 : Cond.instanceMethod yX11_areAlike ∈ xW := xW_of (List.mem_append_right _ (List.mem_append_right _ (List.mem_append_right _ (List.mem_append_right _ (List.mem_append_right _ (List.mem_append_right _ (List.mem_of_getElem? (i := 28) rfl))))))) rfl
set_option maxRecDepth 20000 in
theorem kw1291 : Cond.code yX11_areAlike cX11_areAlike 4 (some .boolean) ∈ xW := xW_of (List.mem_append_right _ (List.mem_append_right _ (List.mem_append_right _ (List.mem_append_right _ (List.mem_append_right _ (List.mem_append_right _ (List.mem_of_getElem? (i := 29) rfl))))))) rfl
set_option maxRecDepth 20000 in
theorem kw1292 : Cond.methodLink "MeasureBookModel" 155 yX11_add ∈ xW := xW_of (List.mem_append_right _ (List.mem_append_right _ (List.mem_append_right _ (List.mem_append_right _ (List.mem_append_right _ (List.mem_append_right _ (List.mem_of_getElem? (i := 30) rfl))))))) rfl
set_option maxRecDepth 20000 in
theorem kw1294 : Cond.instanceMethod yX11_add ∈ xW := xW_of (List.mem_append_right _ (List.mem_append_right _ (List.mem_append_right _ (List.mem_append_right _ (List.mem_append_right _ (List.mem_append_right _ (List.mem_of_getElem? (i := 32) rfl))))))) rfl
set_option maxRecDepth 20000 in
theorem kw1295 : Cond.code yX11_add cX11_add 6 none ∈ xW := xW_of (List.mem_append_right _ (List.mem_append_right _ (List.mem_append_right _ (List.mem_append_right _ (List.mem_append_right _ (List.mem_append_right _ (List.mem_of_getElem? (i := 33) rfl))))))) rfl
set_option maxRecDepth 20000 in
theorem kw1296 : Cond.methodLink "MeasureBookModel" 295 yX11_isTwice ∈ xW := xW_of (List.mem_append_right _ (List.mem_append_right _ (List.mem_append_right _ (List.mem_append_right _ (List.mem_append_right _ (List.mem_append_right _ (List.mem_of_getElem? (i := 34) rfl))))))) rfl
set_option maxRecDepth 20000 in
theorem kw1298 : Cond.instanceMethod yX11_isTwice ∈ xW := xW_of (List.mem_append_right _ (List.mem_append_right _ (List.mem_append_right _ (List.mem_append_right _ (List.mem_append_right _ (List.mem_append_right _ (List.mem_of_getElem? (i := 36) rfl))))))) rfl
set_option maxRecDepth 20000 in
theorem kw1299 : Cond.code yX11_isTwice cX11_isTwice 5 (some .boolean) ∈ xW := xW_of (List.mem_append_right _ (List.mem_append_right _ (List.mem_append_right _ (List.mem_append_right _ (List.mem_append_right _ (List.mem_append_right _ (List.mem_of_getElem? (i := 37) rfl))))))) rfl
set_option maxRecDepth 20000 in
theorem kw1300 : Cond.methodLink "MeasureBookModel" 301 yX11_comes ∈ xW := xW_of (List.mem_append_right _ (List.mem_append_right _ (List.mem_append_right _ (List.mem_append_right _ (List.mem_append_right _ (List.mem_append_right _ (List.mem_of_getElem? (i := 38) rfl))))))) rfl
set_option maxRecDepth 20000 in
theorem kw1302 : Cond.instanceMethod yX11_comes ∈ xW := xW_of (List.mem_append_right _ (List.mem_append_right _ (List.mem_append_right _ (List.mem_append_right _ (List.mem_append_right _ (List.mem_append_right _ (List.mem_of_getElem? (i := 40) rfl))))))) rfl
set_option maxRecDepth 20000 in
theorem kw1303 : Cond.code yX11_comes cX11_comes 6 none ∈ xW := xW_of (List.mem_append_right _ (List.mem_append_right _ (List.mem_append_right _ (List.mem_append_right _ (List.mem_append_right _ (List.mem_append_right _ (List.mem_of_getElem? (i := 41) rfl))))))) rfl
set_option maxRecDepth 20000 in
theorem kw1304 : Cond.methodLink "MeasureBookModel" 320 yX11_failed ∈ xW := xW_of (List.mem_append_right _ (List.mem_append_right _ (List.mem_append_right _ (List.mem_append_right _ (List.mem_append_right _ (List.mem_append_right _ (List.mem_of_getElem? (i := 42) rfl))))))) rfl
set_option maxRecDepth 20000 in
theorem kw1306 : Cond.instanceMethod yX11_failed ∈ xW := xW_of (List.mem_append_right _ (List.mem_append_right _ (List.mem_append_right _ (List.mem_append_right _ (List.mem_append_right _ (List.mem_append_right _ (List.mem_of_getElem? (i := 44) rfl))))))) rfl
set_option maxRecDepth 20000 in
theorem kw1307 : Cond.code yX11_failed cX11_failed 3 (some .int) ∈ xW := xW_of (List.mem_append_right _ (List.mem_append_right _ (List.mem_append_right _ (List.mem_append_right _ (List.mem_append_right _ (List.mem_append_right _ (List.mem_of_getElem? (i := 45) rfl))))))) rfl
set_option maxRecDepth 20000 in
theorem kw1308 : Cond.methodLink "MeasureBookModel" 323 yX11_settle ∈ xW := xW_of (List.mem_append_right _ (List.mem_append_right _ (List.mem_append_right _ (List.mem_append_right _ (List.mem_append_right _ (List.mem_append_right _ (List.mem_of_getElem? (i := 46) rfl))))))) rfl
set_option maxRecDepth 20000 in
theorem kw1310 : Cond.instanceMethod yX11_settle ∈ xW := xW_of (List.mem_append_right _ (List.mem_append_right _ (List.mem_append_right _ (List.mem_append_right _ (List.mem_append_right _ (List.mem_append_right _ (List.mem_of_getElem? (i := 48) rfl))))))) rfl
set_option maxRecDepth 20000 in
theorem kw1311 : Cond.code yX11_settle cX11_settle 4 (some .int) ∈ xW := xW_of (List.mem_append_right _ (List.mem_append_right _ (List.mem_append_right _ (List.mem_append_right _ (List.mem_append_right _ (List.mem_append_right _ (List.mem_of_getElem? (i := 49) rfl))))))) rfl
set_option maxRecDepth 20000 in
theorem kw1312 : Cond.methodLink "MeasureBookModel" 271 yX11_follow ∈ xW := xW_of (List.mem_append_right _ (List.mem_append_right _ (List.mem_append_right _ (List.mem_append_right _ (List.mem_append_right _ (List.mem_append_right _ (List.mem_of_getElem? (i := 50) rfl))))))) rfl
set_option maxRecDepth 20000 in
theorem kw1314 : Cond.instanceMethod yX11_follow ∈ xW := xW_of (List.mem_append_right _ (List.mem_append_right _ (List.mem_append_right _ (List.mem_append_right _ (List.mem_append_right _ (List.mem_append_right _ (List.mem_of_getElem? (i := 52) rfl))))))) rfl
set_option maxRecDepth 20000 in
theorem kw1315 : Cond.code yX11_follow cX11_follow 7 none ∈ xW := xW_of (List.mem_append_right _ (List.mem_append_right _ (List.mem_append_right _ (List.mem_append_right _ (List.mem_append_right _ (List.mem_append_right _ (List.mem_of_getElem? (i := 53) rfl))))))) rfl
set_option maxRecDepth 20000 in
theorem kw1316 : Cond.methodLink "MeasureBookLaw" 39 yX11_forget ∈ xW := xW_of (List.mem_append_right _ (List.mem_append_right _ (List.mem_append_right _ (List.mem_append_right _ (List.mem_append_right _ (List.mem_append_right _ (List.mem_of_getElem? (i := 54) rfl))))))) rfl
set_option maxRecDepth 20000 in
theorem kw1317 : Cond.instanceMethod yX11_forget ∈ xW := xW_of (List.mem_append_right _ (List.mem_append_right _ (List.mem_append_right _ (List.mem_append_right _ (List.mem_append_right _ (List.mem_append_right _ (List.mem_of_getElem? (i := 55) rfl))))))) rfl
set_option maxRecDepth 20000 in
theorem kw1318 : Cond.selects "MeasureBookModel" yX11_forget yX11_forget ∈ xW := xW_of (List.mem_append_right _ (List.mem_append_right _ (List.mem_append_right _ (List.mem_append_right _ (List.mem_append_right _ (List.mem_append_right _ (List.mem_of_getElem? (i := 56) rfl))))))) rfl
set_option maxRecDepth 20000 in
theorem kw1319 : Cond.code yX11_forget cX11_forget 3 (some .int) ∈ xW := xW_of (List.mem_append_right _ (List.mem_append_right _ (List.mem_append_right _ (List.mem_append_right _ (List.mem_append_right _ (List.mem_append_right _ (List.mem_of_getElem? (i := 57) rfl))))))) rfl
set_option maxRecDepth 20000 in
theorem kw1320 : Cond.methodLink "MeasureBookLaw" 43 yX11_reckon ∈ xW := xW_of (List.mem_append_right _ (List.mem_append_right _ (List.mem_append_right _ (List.mem_append_right _ (List.mem_append_right _ (List.mem_append_right _ (List.mem_of_getElem? (i := 58) rfl))))))) rfl
set_option maxRecDepth 20000 in
theorem kw1321 : Cond.instanceMethod yX11_reckon ∈ xW := xW_of (List.mem_append_right _ (List.mem_append_right _ (List.mem_append_right _ (List.mem_append_right _ (List.mem_append_right _ (List.mem_append_right _ (List.mem_of_getElem? (i := 59) rfl))))))) rfl
set_option maxRecDepth 20000 in
theorem kw1322 : Cond.selects "MeasureBookModel" yX11_reckon yX11_reckon ∈ xW := xW_of (List.mem_append_right _ (List.mem_append_right _ (List.mem_append_right _ (List.mem_append_right _ (List.mem_append_right _ (List.mem_append_right _ (List.mem_of_getElem? (i := 60) rfl))))))) rfl
set_option maxRecDepth 20000 in
theorem kw1323 : Cond.code yX11_reckon cX11_reckon 2 (some .int) ∈ xW := xW_of (List.mem_append_right _ (List.mem_append_right _ (List.mem_append_right _ (List.mem_append_right _ (List.mem_append_right _ (List.mem_append_right _ (List.mem_of_getElem? (i := 61) rfl))))))) rfl
set_option maxRecDepth 20000 in
theorem kw1324 : Cond.methodLink "MeasureBookModel" 329 yX11_reads ∈ xW := xW_of (List.mem_append_right _ (List.mem_append_right _ (List.mem_append_right _ (List.mem_append_right _ (List.mem_append_right _ (List.mem_append_right _ (List.mem_of_getElem? (i := 62) rfl))))))) rfl
set_option maxRecDepth 20000 in
theorem kw1326 : Cond.instanceMethod yX11_reads ∈ xW := xW_of (List.mem_append_right _ (List.mem_append_right _ (List.mem_append_right _ (List.mem_append_right _ (List.mem_append_right _ (List.mem_append_right _ (List.mem_of_getElem? (i := 64) rfl))))))) rfl
set_option maxRecDepth 20000 in
theorem kw1327 : Cond.code yX11_reads cX11_reads 4 (some .boolean) ∈ xW := xW_of (List.mem_append_right _ (List.mem_append_right _ (List.mem_append_right _ (List.mem_append_right _ (List.mem_append_right _ (List.mem_append_right _ (List.mem_of_getElem? (i := 65) rfl))))))) rfl
set_option maxRecDepth 20000 in
theorem kw1328 : Cond.methodLink "MeasureBookModel" 333 yX11_has ∈ xW := xW_of (List.mem_append_right _ (List.mem_append_right _ (List.mem_append_right _ (List.mem_append_right _ (List.mem_append_right _ (List.mem_append_right _ (List.mem_of_getElem? (i := 66) rfl))))))) rfl
set_option maxRecDepth 20000 in
theorem kw1330 : Cond.instanceMethod yX11_has ∈ xW := xW_of (List.mem_append_right _ (List.mem_append_right _ (List.mem_append_right _ (List.mem_append_right _ (List.mem_append_right _ (List.mem_append_right _ (List.mem_of_getElem? (i := 68) rfl))))))) rfl
set_option maxRecDepth 20000 in
theorem kw1331 : Cond.code yX11_has cX11_has 3 (some .boolean) ∈ xW := xW_of (List.mem_append_right _ (List.mem_append_right _ (List.mem_append_right _ (List.mem_append_right _ (List.mem_append_right _ (List.mem_append_right _ (List.mem_of_getElem? (i := 69) rfl))))))) rfl
set_option maxRecDepth 20000 in
theorem kw1332 : Cond.methodLink "MeasureBookLaw" 47 yX11_turn ∈ xW := xW_of (List.mem_append_right _ (List.mem_append_right _ (List.mem_append_right _ (List.mem_append_right _ (List.mem_append_right _ (List.mem_append_right _ (List.mem_of_getElem? (i := 70) rfl))))))) rfl
set_option maxRecDepth 20000 in
theorem kw1333 : Cond.instanceMethod yX11_turn ∈ xW := xW_of (List.mem_append_right _ (List.mem_append_right _ (List.mem_append_right _ (List.mem_append_right _ (List.mem_append_right _ (List.mem_append_right _ (List.mem_of_getElem? (i := 71) rfl))))))) rfl
set_option maxRecDepth 20000 in
theorem kw1334 : Cond.selects "MeasureBookModel" yX11_turn yX11_turn ∈ xW := xW_of (List.mem_append_right _ (List.mem_append_right _ (List.mem_append_right _ (List.mem_append_right _ (List.mem_append_right _ (List.mem_append_right _ (List.mem_of_getElem? (i := 72) rfl))))))) rfl
set_option maxRecDepth 20000 in
theorem kw1335 : Cond.code yX11_turn cX11_turn 4 (some .int) ∈ xW := xW_of (List.mem_append_right _ (List.mem_append_right _ (List.mem_append_right _ (List.mem_append_right _ (List.mem_append_right _ (List.mem_append_right _ (List.mem_of_getElem? (i := 73) rfl))))))) rfl
set_option maxRecDepth 20000 in
theorem kw1336 : Cond.methodLink "MeasureBookLaw" 51 yX11_fault ∈ xW := xW_of (List.mem_append_right _ (List.mem_append_right _ (List.mem_append_right _ (List.mem_append_right _ (List.mem_append_right _ (List.mem_append_right _ (List.mem_of_getElem? (i := 74) rfl))))))) rfl
set_option maxRecDepth 20000 in
theorem kw1337 : Cond.instanceMethod yX11_fault ∈ xW := xW_of (List.mem_append_right _ (List.mem_append_right _ (List.mem_append_right _ (List.mem_append_right _ (List.mem_append_right _ (List.mem_append_right _ (List.mem_of_getElem? (i := 75) rfl))))))) rfl
set_option maxRecDepth 20000 in
theorem kw1338 : Cond.selects "MeasureBookModel" yX11_fault yX11_fault ∈ xW := xW_of (List.mem_append_right _ (List.mem_append_right _ (List.mem_append_right _ (List.mem_append_right _ (List.mem_append_right _ (List.mem_append_right _ (List.mem_of_getElem? (i := 76) rfl))))))) rfl
set_option maxRecDepth 20000 in
theorem kw1339 : Cond.code yX11_fault cX11_fault 1 (some .int) ∈ xW := xW_of (List.mem_append_right _ (List.mem_append_right _ (List.mem_append_right _ (List.mem_append_right _ (List.mem_append_right _ (List.mem_append_right _ (List.mem_of_getElem? (i := 77) rfl))))))) rfl
set_option maxRecDepth 20000 in
theorem kw1340 : Cond.methodLink "MeasureBookLaw" 55 yX11_sign ∈ xW := xW_of (List.mem_append_right _ (List.mem_append_right _ (List.mem_append_right _ (List.mem_append_right _ (List.mem_append_right _ (List.mem_append_right _ (List.mem_of_getElem? (i := 78) rfl))))))) rfl
set_option maxRecDepth 20000 in
theorem kw1341 : Cond.instanceMethod yX11_sign ∈ xW := xW_of (List.mem_append_right _ (List.mem_append_right _ (List.mem_append_right _ (List.mem_append_right _ (List.mem_append_right _ (List.mem_append_right _ (List.mem_of_getElem? (i := 79) rfl))))))) rfl
set_option maxRecDepth 20000 in
theorem kw1342 : Cond.selects "MeasureBookModel" yX11_sign yX11_sign ∈ xW := xW_of (List.mem_append_right _ (List.mem_append_right _ (List.mem_append_right _ (List.mem_append_right _ (List.mem_append_right _ (List.mem_append_right _ (List.mem_of_getElem? (i := 80) rfl))))))) rfl
set_option maxRecDepth 20000 in
theorem kw1343 : Cond.code yX11_sign cX11_sign 1 (some .int) ∈ xW := xW_of (List.mem_append_right _ (List.mem_append_right _ (List.mem_append_right _ (List.mem_append_right _ (List.mem_append_right _ (List.mem_append_right _ (List.mem_of_getElem? (i := 81) rfl))))))) rfl
set_option maxRecDepth 20000 in
theorem kw1344 : Cond.methodLink "MeasureBookLaw" 59 yX11_power ∈ xW := xW_of (List.mem_append_right _ (List.mem_append_right _ (List.mem_append_right _ (List.mem_append_right _ (List.mem_append_right _ (List.mem_append_right _ (List.mem_of_getElem? (i := 82) rfl))))))) rfl
set_option maxRecDepth 20000 in
theorem kw1345 : Cond.instanceMethod yX11_power ∈ xW := xW_of (List.mem_append_right _ (List.mem_append_right _ (List.mem_append_right _ (List.mem_append_right _ (List.mem_append_right _ (List.mem_append_right _ (List.mem_of_getElem? (i := 83) rfl))))))) rfl
set_option maxRecDepth 20000 in
theorem kw1346 : Cond.selects "MeasureBookModel" yX11_power yX11_power ∈ xW := xW_of (List.mem_append_right _ (List.mem_append_right _ (List.mem_append_right _ (List.mem_append_right _ (List.mem_append_right _ (List.mem_append_right _ (List.mem_of_getElem? (i := 84) rfl))))))) rfl
set_option maxRecDepth 20000 in
theorem kw1347 : Cond.code yX11_power cX11_power 2 (some .int) ∈ xW := xW_of (List.mem_append_right _ (List.mem_append_right _ (List.mem_append_right _ (List.mem_append_right _ (List.mem_append_right _ (List.mem_append_right _ (List.mem_of_getElem? (i := 85) rfl))))))) rfl
set_option maxRecDepth 20000 in
theorem kw1348 : Cond.methodLink "MeasureBookLaw" 63 yX11_digits ∈ xW := xW_of (List.mem_append_right _ (List.mem_append_right _ (List.mem_append_right _ (List.mem_append_right _ (List.mem_append_right _ (List.mem_append_right _ (List.mem_of_getElem? (i := 86) rfl))))))) rfl
set_option maxRecDepth 20000 in
theorem kw1349 : Cond.instanceMethod yX11_digits ∈ xW := xW_of (List.mem_append_right _ (List.mem_append_right _ (List.mem_append_right _ (List.mem_append_right _ (List.mem_append_right _ (List.mem_append_right _ (List.mem_of_getElem? (i := 87) rfl))))))) rfl
set_option maxRecDepth 20000 in
theorem kw1350 : Cond.selects "MeasureBookModel" yX11_digits yX11_digits ∈ xW := xW_of (List.mem_append_right _ (List.mem_append_right _ (List.mem_append_right _ (List.mem_append_right _ (List.mem_append_right _ (List.mem_append_right _ (List.mem_of_getElem? (i := 88) rfl))))))) rfl
set_option maxRecDepth 20000 in
theorem kw1351 : Cond.code yX11_digits cX11_digits 4 (some .int) ∈ xW := xW_of (List.mem_append_right _ (List.mem_append_right _ (List.mem_append_right _ (List.mem_append_right _ (List.mem_append_right _ (List.mem_append_right _ (List.mem_of_getElem? (i := 89) rfl))))))) rfl
set_option maxRecDepth 20000 in
theorem kw1352 : Cond.methodLink "MeasureBookLaw" 68 yX11_digit ∈ xW := xW_of (List.mem_append_right _ (List.mem_append_right _ (List.mem_append_right _ (List.mem_append_right _ (List.mem_append_right _ (List.mem_append_right _ (List.mem_of_getElem? (i := 90) rfl))))))) rfl
set_option maxRecDepth 20000 in
theorem kw1353 : Cond.instanceMethod yX11_digit ∈ xW := xW_of (List.mem_append_right _ (List.mem_append_right _ (List.mem_append_right _ (List.mem_append_right _ (List.mem_append_right _ (List.mem_append_right _ (List.mem_of_getElem? (i := 91) rfl))))))) rfl
set_option maxRecDepth 20000 in
theorem kw1354 : Cond.selects "MeasureBookModel" yX11_digit yX11_digit ∈ xW := xW_of (List.mem_append_right _ (List.mem_append_right _ (List.mem_append_right _ (List.mem_append_right _ (List.mem_append_right _ (List.mem_append_right _ (List.mem_of_getElem? (i := 92) rfl))))))) rfl
set_option maxRecDepth 20000 in
theorem kw1355 : Cond.code yX11_digit cX11_digit 5 (some .int) ∈ xW := xW_of (List.mem_append_right _ (List.mem_append_right _ (List.mem_append_right _ (List.mem_append_right _ (List.mem_append_right _ (List.mem_append_right _ (List.mem_of_getElem? (i := 93) rfl))))))) rfl
set_option maxRecDepth 20000 in
theorem kw1356 : Cond.methodLink "MeasureBookModel" 339 yX11_digits ∈ xW := xW_of (List.mem_append_right _ (List.mem_append_right _ (List.mem_append_right _ (List.mem_append_right _ (List.mem_append_right _ (List.mem_append_right _ (List.mem_of_getElem? (i := 94) rfl))))))) rfl
set_option maxRecDepth 20000 in
theorem kw1357 : Cond.methodLink "MeasureBookLaw" 72 yX11_point ∈ xW := xW_of (List.mem_append_right _ (List.mem_append_right _ (List.mem_append_right _ (List.mem_append_right _ (List.mem_append_right _ (List.mem_append_right _ (List.mem_of_getElem? (i := 95) rfl))))))) rfl
set_option maxRecDepth 20000 in
theorem kw1358 : Cond.instanceMethod yX11_point ∈ xW := xW_of (List.mem_append_right _ (List.mem_append_right _ (List.mem_append_right _ (List.mem_append_right _ (List.mem_append_right _ (List.mem_append_right _ (List.mem_of_getElem? (i := 96) rfl))))))) rfl
set_option maxRecDepth 20000 in
theorem kw1359 : Cond.selects "MeasureBookModel" yX11_point yX11_point ∈ xW := xW_of (List.mem_append_right _ (List.mem_append_right _ (List.mem_append_right _ (List.mem_append_right _ (List.mem_append_right _ (List.mem_append_right _ (List.mem_of_getElem? (i := 97) rfl))))))) rfl
set_option maxRecDepth 20000 in
theorem kw1360 : Cond.code yX11_point cX11_point 4 (some .int) ∈ xW := xW_of (List.mem_append_right _ (List.mem_append_right _ (List.mem_append_right _ (List.mem_append_right _ (List.mem_append_right _ (List.mem_append_right _ (List.mem_of_getElem? (i := 98) rfl))))))) rfl
set_option maxRecDepth 20000 in
theorem kw1361 : Cond.methodLink "MeasureBookLaw" 76 yX11_ends ∈ xW := xW_of (List.mem_append_right _ (List.mem_append_right _ (List.mem_append_right _ (List.mem_append_right _ (List.mem_append_right _ (List.mem_append_right _ (List.mem_of_getElem? (i := 99) rfl))))))) rfl
set_option maxRecDepth 20000 in
theorem kw1362 : Cond.instanceMethod yX11_ends ∈ xW := xW_of (List.mem_append_right _ (List.mem_append_right _ (List.mem_append_right _ (List.mem_append_right _ (List.mem_append_right _ (List.mem_append_right _ (List.mem_of_getElem? (i := 100) rfl))))))) rfl
set_option maxRecDepth 20000 in
theorem kw1363 : Cond.selects "MeasureBookModel" yX11_ends yX11_ends ∈ xW := xW_of (List.mem_append_right _ (List.mem_append_right _ (List.mem_append_right _ (List.mem_append_right _ (List.mem_append_right _ (List.mem_append_right _ (List.mem_of_getElem? (i := 101) rfl))))))) rfl
set_option maxRecDepth 20000 in
theorem kw1364 : Cond.code yX11_ends cX11_ends 4 (some .int) ∈ xW := xW_of (List.mem_append_right _ (List.mem_append_right _ (List.mem_append_right _ (List.mem_append_right _ (List.mem_append_right _ (List.mem_append_right _ (List.mem_of_getElem? (i := 102) rfl))))))) rfl
set_option maxRecDepth 20000 in
theorem kw1365 : Cond.methodLink "MeasureBookModel" 342 yX11_times ∈ xW := xW_of (List.mem_append_right _ (List.mem_append_right _ (List.mem_append_right _ (List.mem_append_right _ (List.mem_append_right _ (List.mem_append_right _ (List.mem_of_getElem? (i := 103) rfl))))))) rfl
set_option maxRecDepth 20000 in
theorem kw1367 : Cond.instanceMethod yX11_times ∈ xW := xW_of (List.mem_append_right _ (List.mem_append_right _ (List.mem_append_right _ (List.mem_append_right _ (List.mem_append_right _ (List.mem_append_right _ (List.mem_of_getElem? (i := 105) rfl))))))) rfl
set_option maxRecDepth 20000 in
theorem kw1368 : Cond.code yX11_times cX11_times 3 (some .int) ∈ xW := xW_of (List.mem_append_right _ (List.mem_append_right _ (List.mem_append_right _ (List.mem_append_right _ (List.mem_append_right _ (List.mem_append_right _ (List.mem_of_getElem? (i := 106) rfl))))))) rfl
set_option maxRecDepth 20000 in
theorem kw1369 : Cond.methodLink "MeasureBookLaw" 80 yX11_alike ∈ xW := xW_of (List.mem_append_right _ (List.mem_append_right _ (List.mem_append_right _ (List.mem_append_right _ (List.mem_append_right _ (List.mem_append_right _ (List.mem_of_getElem? (i := 107) rfl))))))) rfl
set_option maxRecDepth 20000 in
theorem kw1370 : Cond.instanceMethod yX11_alike ∈ xW := xW_of (List.mem_append_right _ (List.mem_append_right _ (List.mem_append_right _ (List.mem_append_right _ (List.mem_append_right _ (List.mem_append_right _ (List.mem_of_getElem? (i := 108) rfl))))))) rfl
set_option maxRecDepth 20000 in
theorem kw1371 : Cond.selects "MeasureBookModel" yX11_alike yX11_alike ∈ xW := xW_of (List.mem_append_right _ (List.mem_append_right _ (List.mem_append_right _ (List.mem_append_right _ (List.mem_append_right _ (List.mem_append_right _ (List.mem_of_getElem? (i := 109) rfl))))))) rfl
set_option maxRecDepth 20000 in
theorem kw1372 : Cond.code yX11_alike cX11_alike 4 (some .int) ∈ xW := xW_of (List.mem_append_right _ (List.mem_append_right _ (List.mem_append_right _ (List.mem_append_right _ (List.mem_append_right _ (List.mem_append_right _ (List.mem_of_getElem? (i := 110) rfl))))))) rfl
set_option maxRecDepth 20000 in
theorem kw1373 : Cond.methodLink "MeasureBookLaw" 84 yX11_sort ∈ xW := xW_of (List.mem_append_right _ (List.mem_append_right _ (List.mem_append_right _ (List.mem_append_right _ (List.mem_append_right _ (List.mem_append_right _ (List.mem_of_getElem? (i := 111) rfl))))))) rfl
set_option maxRecDepth 20000 in
theorem kw1374 : Cond.instanceMethod yX11_sort ∈ xW := xW_of (List.mem_append_right _ (List.mem_append_right _ (List.mem_append_right _ (List.mem_append_right _ (List.mem_append_right _ (List.mem_append_right _ (List.mem_of_getElem? (i := 112) rfl))))))) rfl
set_option maxRecDepth 20000 in
theorem kw1375 : Cond.selects "MeasureBookModel" yX11_sort yX11_sort ∈ xW := xW_of (List.mem_append_right _ (List.mem_append_right _ (List.mem_append_right _ (List.mem_append_right _ (List.mem_append_right _ (List.mem_append_right _ (List.mem_of_getElem? (i := 113) rfl))))))) rfl
set_option maxRecDepth 20000 in
theorem kw1376 : Cond.code yX11_sort cX11_sort 2 (some .int) ∈ xW := xW_of (List.mem_append_right _ (List.mem_append_right _ (List.mem_append_right _ (List.mem_append_right _ (List.mem_append_right _ (List.mem_append_right _ (List.mem_of_getElem? (i := 114) rfl))))))) rfl
set_option maxRecDepth 20000 in
theorem kw1377 : Cond.methodLink "MeasureBookModel" 345 yX11_isDefinition ∈ xW := xW_of (List.mem_append_right _ (List.mem_append_right _ (List.mem_append_right _ (List.mem_append_right _ (List.mem_append_right _ (List.mem_append_right _ (List.mem_of_getElem? (i := 115) rfl))))))) rfl
set_option maxRecDepth 20000 in
theorem kw1379 : Cond.instanceMethod yX11_isDefinition ∈ xW := xW_of (List.mem_append_right _ (List.mem_append_right _ (List.mem_append_right _ (List.mem_append_right _ (List.mem_append_right _ (List.mem_append_right _ (List.mem_of_getElem? (i := 117) rfl))))))) rfl
set_option maxRecDepth 20000 in
theorem kw1380 : Cond.code yX11_isDefinition cX11_isDefinition 2 (some .boolean) ∈ xW := xW_of (List.mem_append_right _ (List.mem_append_right _ (List.mem_append_right _ (List.mem_append_right _ (List.mem_append_right _ (List.mem_append_right _ (List.mem_of_getElem? (i := 118) rfl))))))) rfl
set_option maxRecDepth 20000 in
theorem kw1381 : Cond.methodLink "MeasureBookLaw" 88 yX11_faultOf ∈ xW := xW_of (List.mem_append_right _ (List.mem_append_right _ (List.mem_append_right _ (List.mem_append_right _ (List.mem_append_right _ (List.mem_append_right _ (List.mem_of_getElem? (i := 119) rfl))))))) rfl
set_option maxRecDepth 20000 in
theorem kw1382 : Cond.instanceMethod yX11_faultOf ∈ xW := xW_of (List.mem_append_right _ (List.mem_append_right _ (List.mem_append_right _ (List.mem_append_right _ (List.mem_append_right _ (List.mem_append_right _ (List.mem_of_getElem? (i := 120) rfl))))))) rfl
set_option maxRecDepth 20000 in
theorem kw1383 : Cond.selects "MeasureBookModel" yX11_faultOf yX11_faultOf ∈ xW := xW_of (List.mem_append_right _ (List.mem_append_right _ (List.mem_append_right _ (List.mem_append_right _ (List.mem_append_right _ (List.mem_append_right _ (List.mem_of_getElem? (i := 121) rfl))))))) rfl
set_option maxRecDepth 20000 in
theorem kw1384 : Cond.code yX11_faultOf cX11_faultOf 2 (some .int) ∈ xW := xW_of (List.mem_append_right _ (List.mem_append_right _ (List.mem_append_right _ (List.mem_append_right _ (List.mem_append_right _ (List.mem_append_right _ (List.mem_of_getElem? (i := 122) rfl))))))) rfl
set_option maxRecDepth 20000 in
theorem kw1385 : Cond.methodLink "MeasureBookLaw" 92 yX11_name ∈ xW := xW_of (List.mem_append_right _ (List.mem_append_right _ (List.mem_append_right _ (List.mem_append_right _ (List.mem_append_right _ (List.mem_append_right _ (List.mem_of_getElem? (i := 123) rfl))))))) rfl
set_option maxRecDepth 20000 in
theorem kw1386 : Cond.instanceMethod yX11_name ∈ xW := xW_of (List.mem_append_right _ (List.mem_append_right _ (List.mem_append_right _ (List.mem_append_right _ (List.mem_append_right _ (List.mem_append_right _ (List.mem_of_getElem? (i := 124) rfl))))))) rfl
set_option maxRecDepth 20000 in
theorem kw1387 : Cond.selects "MeasureBookModel" yX11_name yX11_name ∈ xW := xW_of (List.mem_append_right _ (List.mem_append_right _ (List.mem_append_right _ (List.mem_append_right _ (List.mem_append_right _ (List.mem_append_right _ (List.mem_of_getElem? (i := 125) rfl))))))) rfl
set_option maxRecDepth 20000 in
theorem kw1388 : Cond.code yX11_name cX11_name 3 (some .int) ∈ xW := xW_of (List.mem_append_right _ (List.mem_append_right _ (List.mem_append_right _ (List.mem_append_right _ (List.mem_append_right _ (List.mem_append_right _ (List.mem_of_getElem? (i := 126) rfl))))))) rfl
set_option maxRecDepth 20000 in
theorem kw1389 : Cond.methodLink "MeasureBookLaw" 96 yX11_told ∈ xW := xW_of (List.mem_append_right _ (List.mem_append_right _ (List.mem_append_right _ (List.mem_append_right _ (List.mem_append_right _ (List.mem_append_right _ (List.mem_of_getElem? (i := 127) rfl))))))) rfl
set_option maxRecDepth 20000 in
theorem kw1390 : Cond.instanceMethod yX11_told ∈ xW := xW_of (List.mem_append_right _ (List.mem_append_right _ (List.mem_append_right _ (List.mem_append_right _ (List.mem_append_right _ (List.mem_append_right _ (List.mem_of_getElem? (i := 128) rfl))))))) rfl
set_option maxRecDepth 20000 in
theorem kw1391 : Cond.selects "MeasureBookModel" yX11_told yX11_told ∈ xW := xW_of (List.mem_append_right _ (List.mem_append_right _ (List.mem_append_right _ (List.mem_append_right _ (List.mem_append_right _ (List.mem_append_right _ (List.mem_of_getElem? (i := 129) rfl))))))) rfl
set_option maxRecDepth 20000 in
theorem kw1392 : Cond.code yX11_told cX11_told 2 (some .int) ∈ xW := xW_of (List.mem_append_right _ (List.mem_append_right _ (List.mem_append_right _ (List.mem_append_right _ (List.mem_append_right _ (List.mem_append_right _ (List.mem_of_getElem? (i := 130) rfl))))))) rfl
def mX0_init : xM := (yX0_init, cX0_init, 2, none, 2)
def mX0_act : xM := (yX0_act, cX0_act, 6, (some .int), 5)
def mX0_addUp : xM := (yX0_addUp, cX0_addUp, 5, (some .int), 3)
def mX0_multiply : xM := (yX0_multiply, cX0_multiply, 3, (some .int), 3)
def mX0_divide : xM := (yX0_divide, cX0_divide, 3, (some .int), 3)
def mX0_raise : xM := (yX0_raise, cX0_raise, 4, (some .int), 4)
def mX0_setRaised : xM := (yX0_setRaised, cX0_setRaised, 5, none, 3)
def mX0_readNumber : xM := (yX0_readNumber, cX0_readNumber, 10, (some .int), 4)
def mX0_exponentAt : xM := (yX0_exponentAt, cX0_exponentAt, 7, (some .int), 0)
def mX0_putInto : xM := (yX0_putInto, cX0_putInto, 2, (some .int), 2)
def mX0_reduce : xM := (yX0_reduce, cX0_reduce, 5, none, 3)
def mX0_splitBy : xM := (yX0_splitBy, cX0_splitBy, 9, none, 2)
def mX0_shiftUp : xM := (yX0_shiftUp, cX0_shiftUp, 7, none, 0)
def mX0_takeOff : xM := (yX0_takeOff, cX0_takeOff, 12, (some .int), 1)
def mX0_subtractTimes : xM := (yX0_subtractTimes, cX0_subtractTimes, 8, (some .long), 0)
def mX0_addBack : xM := (yX0_addBack, cX0_addBack, 5, none, 0)
def mX1_init : xM := (yX1_init, cX1_init, 1, none, 2)
def mX1_has : xM := (yX1_has, cX1_has, 2, (some .boolean), 0)
def mX1_textEnd : xM := (yX1_textEnd, cX1_textEnd, 1, (some .int), 0)
def mX1_codeEnd : xM := (yX1_codeEnd, cX1_codeEnd, 1, (some .int), 0)
def mX1_byteAt : xM := (yX1_byteAt, cX1_byteAt, 2, (some .int), 0)
def mX1_textUntil : xM := (yX1_textUntil, cX1_textUntil, 5, (some .int), 1)
def mX1_resize : xM := (yX1_resize, cX1_resize, 3, none, 1)
def mX1_objection : xM := (yX1_objection, cX1_objection, 5, (some .int), 3)
def mX1_add : xM := (yX1_add, cX1_add, 6, none, 1)
def mX1_find : xM := (yX1_find, cX1_find, 6, (some .int), 2)
def mX1_begins : xM := (yX1_begins, cX1_begins, 4, (some .boolean), 1)
def mX1_findThing : xM := (yX1_findThing, cX1_findThing, 4, (some .int), 3)
def mX1_findMeaning : xM := (yX1_findMeaning, cX1_findMeaning, 7, none, 4)
def mX2_init : xM := (yX2_init, cX2_init, 1, none, 1)
def mX2_add : xM := (yX2_add, cX2_add, 4, none, 0)
def mX3_init : xM := (yX3_init, cX3_init, 1, none, 2)
def mX3_write : xM := (yX3_write, cX3_write, 5, none, 2)
def mX3_behindPoint : xM := (yX3_behindPoint, cX3_behindPoint, 5, (some .int), 3)
def mX3_takeOut : xM := (yX3_takeOut, cX3_takeOut, 4, (some .int), 2)
def mX4_init : xM := (yX4_init, cX4_init, 2, none, 3)
def mX4_begin : xM := (yX4_begin, cX4_begin, 4, none, 3)
def mX4_firstNew : xM := (yX4_firstNew, cX4_firstNew, 4, (some .int), 0)
def mX4_firstEndless : xM := (yX4_firstEndless, cX4_firstEndless, 3, (some .int), 0)
def mX5_init : xM := (yX5_init, cX5_init, 2, none, 1)
def mX5_setSmall : xM := (yX5_setSmall, cX5_setSmall, 2, none, 0)
def mX5_copy : xM := (yX5_copy, cX5_copy, 2, none, 1)
def mX5_isOne : xM := (yX5_isOne, cX5_isOne, 1, (some .boolean), 0)
def mX5_bitLength : xM := (yX5_bitLength, cX5_bitLength, 1, (some .int), 1)
def mX5_compare : xM := (yX5_compare, cX5_compare, 3, (some .int), 0)
def mX5_timesPlus : xM := (yX5_timesPlus, cX5_timesPlus, 6, none, 0)
def mX5_timesTens : xM := (yX5_timesTens, cX5_timesTens, 3, none, 1)
def mX5_divideSmall : xM := (yX5_divideSmall, cX5_divideSmall, 7, (some .int), 1)
def mX5_setProduct : xM := (yX5_setProduct, cX5_setProduct, 10, none, 2)
def mX5_setSum : xM := (yX5_setSum, cX5_setSum, 6, none, 1)
def mX5_setDifference : xM := (yX5_setDifference, cX5_setDifference, 6, none, 1)
def mX5_trim : xM := (yX5_trim, cX5_trim, 1, none, 0)
def mX6_init : xM := (yX6_init, cX6_init, 1, none, 2)
def mX6_readExpr : xM := (yX6_readExpr, cX6_readExpr, 4, (some .boolean), 4)
def mX6_readMinus : xM := (yX6_readMinus, cX6_readMinus, 1, none, 3)
def mX6_openNested : xM := (yX6_openNested, cX6_openNested, 1, none, 3)
def mX6_closeNested : xM := (yX6_closeNested, cX6_closeNested, 2, none, 3)
def mX6_readOne : xM := (yX6_readOne, cX6_readOne, 4, (some .boolean), 3)
def mX6_readPower : xM := (yX6_readPower, cX6_readPower, 5, (some .boolean), 3)
def mX6_jointFor : xM := (yX6_jointFor, cX6_jointFor, 1, (some .int), 0)
def mX6_hold : xM := (yX6_hold, cX6_hold, 2, none, 0)
def mX6_release : xM := (yX6_release, cX6_release, 4, none, 1)
def mX6_rankOf : xM := (yX6_rankOf, cX6_rankOf, 1, (some .int), 0)
def mX7_init : xM := (yX7_init, cX7_init, 2, none, 4)
def mX7_settle : xM := (yX7_settle, cX7_settle, 6, (some .int), 7)
def mX7_swapLedgers : xM := (yX7_swapLedgers, cX7_swapLedgers, 2, none, 0)
def mX7_enter : xM := (yX7_enter, cX7_enter, 3, none, 1)
def mX7_leave : xM := (yX7_leave, cX7_leave, 2, none, 4)
def mX7_run : xM := (yX7_run, cX7_run, 11, (some .int), 6)
def mX7_firstNeeded : xM := (yX7_firstNeeded, cX7_firstNeeded, 3, (some .int), 1)
def mX7_faultOfMeaning : xM := (yX7_faultOfMeaning, cX7_faultOfMeaning, 4, (some .int), 1)
def mX7_faultOfName : xM := (yX7_faultOfName, cX7_faultOfName, 2, (some .int), 0)
def mX7_slot : xM := (yX7_slot, cX7_slot, 3, (some (.object "MeasureBook$Value")), 3)
def mX8_init : xM := (yX8_init, cX8_init, 1, none, 1)
def mX8_begin : xM := (yX8_begin, cX8_begin, 4, none, 3)
def mX8_byteAt : xM := (yX8_byteAt, cX8_byteAt, 2, (some .int), 0)
def mX8_next : xM := (yX8_next, cX8_next, 2, none, 2)
def mX8_passName : xM := (yX8_passName, cX8_passName, 1, none, 1)
def mX8_passNumber : xM := (yX8_passNumber, cX8_passNumber, 4, none, 1)
def mX8_passDigits : xM := (yX8_passDigits, cX8_passDigits, 2, (some .int), 0)
def mX8_numberUpTo : xM := (yX8_numberUpTo, cX8_numberUpTo, 4, (some .int), 1)
def mX8_isBlank : xM := (yX8_isBlank, cX8_isBlank, 1, (some .boolean), 0)
def mX8_isLetter : xM := (yX8_isLetter, cX8_isLetter, 1, (some .boolean), 0)
def mX8_isDigit : xM := (yX8_isDigit, cX8_isDigit, 1, (some .boolean), 0)
def mX8_isSign : xM := (yX8_isSign, cX8_isSign, 1, (some .boolean), 0)
def mX9_init : xM := (yX9_init, cX9_init, 1, none, 2)
def mX9_part : xM := (yX9_part, cX9_part, 2, (some (.object "MeasureBook$Natural")), 0)
def mX9_copy : xM := (yX9_copy, cX9_copy, 2, none, 2)
def mX9_setBase : xM := (yX9_setBase, cX9_setBase, 2, none, 2)
def mX9_losePowers : xM := (yX9_losePowers, cX9_losePowers, 3, none, 1)
def mX9_hasPowersOf : xM := (yX9_hasPowersOf, cX9_hasPowersOf, 3, (some .boolean), 0)
def mX9_combinePowers : xM := (yX9_combinePowers, cX9_combinePowers, 5, (some .boolean), 0)
def mX10_init : xM := (yX10_init, cX10_init, 2, none, 5)
def mX10_feed : xM := (yX10_feed, cX10_feed, 6, (some .int), 1)
def mX10_cut : xM := (yX10_cut, cX10_cut, 3, (some .int), 0)
def mX10_define : xM := (yX10_define, cX10_define, 5, (some .int), 8)
def mX10_forget : xM := (yX10_forget, cX10_forget, 3, (some .int), 8)
def mX10_reckon : xM := (yX10_reckon, cX10_reckon, 2, (some .int), 8)
def mX10_turn : xM := (yX10_turn, cX10_turn, 4, (some .int), 8)
def mX10_fault : xM := (yX10_fault, cX10_fault, 1, (some .int), 0)
def mX10_sign : xM := (yX10_sign, cX10_sign, 1, (some .int), 0)
def mX10_power : xM := (yX10_power, cX10_power, 2, (some .int), 0)
def mX10_digits : xM := (yX10_digits, cX10_digits, 2, (some .int), 3)
def mX10_digit : xM := (yX10_digit, cX10_digit, 3, (some .int), 3)
def mX10_point : xM := (yX10_point, cX10_point, 2, (some .int), 4)
def mX10_ends : xM := (yX10_ends, cX10_ends, 4, (some .int), 3)
def mX10_alike : xM := (yX10_alike, cX10_alike, 4, (some .int), 2)
def mX10_sort : xM := (yX10_sort, cX10_sort, 2, (some .int), 1)
def mX10_faultOf : xM := (yX10_faultOf, cX10_faultOf, 2, (some .int), 1)
def mX10_name : xM := (yX10_name, cX10_name, 3, (some .int), 1)
def mX10_told : xM := (yX10_told, cX10_told, 2, (some .int), 0)
def mX10_putBytes : xM := (yX10_putBytes, cX10_putBytes, 3, none, 0)
def mX10_takeTape : xM := (yX10_takeTape, cX10_takeTape, 3, (some .int), 1)
def mX10_readFile : xM := (yX10_readFile, cX10_readFile, 7, (some .int), 6)
def mX10_readLine : xM := (yX10_readLine, cX10_readLine, 12, (some .int), 5)
def mX10_openText : xM := (yX10_openText, cX10_openText, 2, (some .int), 4)
def mX10_answerText : xM := (yX10_answerText, cX10_answerText, 3, (some .int), 7)
def mX10_isAlike : xM := (yX10_isAlike, cX10_isAlike, 3, (some .boolean), 1)
def mX11_init : xM := (yX11_init, cX11_init, 2, none, 3)
def mX11_clear : xM := (yX11_clear, cX11_clear, 3, none, 0)
def mX11_setSmall : xM := (yX11_setSmall, cX11_setSmall, 3, none, 1)
def mX11_copy : xM := (yX11_copy, cX11_copy, 4, none, 0)
def mX11_isZero : xM := (yX11_isZero, cX11_isZero, 3, (some .boolean), 0)
def mX11_isOne : xM := (yX11_isOne, cX11_isOne, 3, (some .boolean), 0)
def mX11_compare : xM := (yX11_compare, cX11_compare, 6, (some .int), 0)
def mX11_length : xM := (yX11_length, cX11_length, 5, (some .int), 0)
def mX11_add : xM := (yX11_add, cX11_add, 6, none, 0)
def mX11_subtract : xM := (yX11_subtract, cX11_subtract, 6, none, 0)
def mX11_multiplySmall : xM := (yX11_multiplySmall, cX11_multiplySmall, 7, none, 0)
def mX11_divideSmall : xM := (yX11_divideSmall, cX11_divideSmall, 6, (some .int), 0)
def mX11_multiply : xM := (yX11_multiply, cX11_multiply, 11, none, 1)
def mX11_bit : xM := (yX11_bit, cX11_bit, 3, (some .int), 0)
def mX11_divide : xM := (yX11_divide, cX11_divide, 5, none, 1)
def mX11_isEven : xM := (yX11_isEven, cX11_isEven, 2, (some .boolean), 0)
def mX11_common : xM := (yX11_common, cX11_common, 6, none, 2)
def mX11_setOne : xM := (yX11_setOne, cX11_setOne, 3, none, 2)
def mX11_take : xM := (yX11_take, cX11_take, 4, none, 1)
def mX11_reduce : xM := (yX11_reduce, cX11_reduce, 2, none, 3)
def mX11_isLarge : xM := (yX11_isLarge, cX11_isLarge, 2, (some .boolean), 1)
def mX11_arePowers : xM := (yX11_arePowers, cX11_arePowers, 3, (some .boolean), 0)
def mX11_areAlike : xM := (yX11_areAlike, cX11_areAlike, 4, (some .boolean), 0)
def mX11_product : xM := (yX11_product, cX11_product, 5, (some .int), 4)
def mX11_sum : xM := (yX11_sum, cX11_sum, 5, (some .int), 4)
def mX11_raise : xM := (yX11_raise, cX11_raise, 6, (some .int), 2)
def mX11_at : xM := (yX11_at, cX11_at, 2, (some .int), 0)
def mX11_isDigit : xM := (yX11_isDigit, cX11_isDigit, 1, (some .boolean), 0)
def mX11_isLetter : xM := (yX11_isLetter, cX11_isLetter, 1, (some .boolean), 0)
def mX11_lex : xM := (yX11_lex, cX11_lex, 5, none, 2)
def mX11_number : xM := (yX11_number, cX11_number, 6, (some .int), 1)
def mX11_isSign : xM := (yX11_isSign, cX11_isSign, 2, (some .boolean), 1)
def mX11_isNamed : xM := (yX11_isNamed, cX11_isNamed, 5, (some .boolean), 1)
def mX11_measure : xM := (yX11_measure, cX11_measure, 5, (some .int), 2)
def mX11_measureOrMany : xM := (yX11_measureOrMany, cX11_measureOrMany, 5, (some .int), 3)
def mX11_standsFor : xM := (yX11_standsFor, cX11_standsFor, 7, none, 4)
def mX11_fails : xM := (yX11_fails, cX11_fails, 3, (some .boolean), 0)
def mX11_open : xM := (yX11_open, cX11_open, 1, none, 0)
def mX11_endPower : xM := (yX11_endPower, cX11_endPower, 2, none, 5)
def mX11_endRow : xM := (yX11_endRow, cX11_endRow, 2, none, 5)
def mX11_endTerm : xM := (yX11_endTerm, cX11_endTerm, 2, none, 5)
def mX11_numberOf : xM := (yX11_numberOf, cX11_numberOf, 11, (some .int), 4)
def mX11_readNumber : xM := (yX11_readNumber, cX11_readNumber, 4, (some .int), 5)
def mX11_readName : xM := (yX11_readName, cX11_readName, 1, none, 5)
def mX11_readRaise : xM := (yX11_readRaise, cX11_readRaise, 6, (some .int), 3)
def mX11_expression : xM := (yX11_expression, cX11_expression, 6, (some .int), 6)
def mX11_settle : xM := (yX11_settle, cX11_settle, 4, (some .int), 8)
def mX11_follow : xM := (yX11_follow, cX11_follow, 7, none, 7)
def mX11_feed : xM := (yX11_feed, cX11_feed, 8, (some .int), 0)
def mX11_cut : xM := (yX11_cut, cX11_cut, 3, (some .int), 0)
def mX11_failed : xM := (yX11_failed, cX11_failed, 3, (some .int), 0)
def mX11_count : xM := (yX11_count, cX11_count, 5, (some .int), 0)
def mX11_lineFails : xM := (yX11_lineFails, cX11_lineFails, 3, none, 0)
def mX11_isTwice : xM := (yX11_isTwice, cX11_isTwice, 5, (some .boolean), 2)
def mX11_line : xM := (yX11_line, cX11_line, 9, none, 7)
def mX11_comes : xM := (yX11_comes, cX11_comes, 6, none, 1)
def mX11_define : xM := (yX11_define, cX11_define, 5, (some .int), 9)
def mX11_forget : xM := (yX11_forget, cX11_forget, 3, (some .int), 9)
def mX11_reads : xM := (yX11_reads, cX11_reads, 4, (some .boolean), 7)
def mX11_has : xM := (yX11_has, cX11_has, 3, (some .boolean), 7)
def mX11_reckon : xM := (yX11_reckon, cX11_reckon, 2, (some .int), 8)
def mX11_turn : xM := (yX11_turn, cX11_turn, 4, (some .int), 8)
def mX11_fault : xM := (yX11_fault, cX11_fault, 1, (some .int), 0)
def mX11_sign : xM := (yX11_sign, cX11_sign, 1, (some .int), 0)
def mX11_power : xM := (yX11_power, cX11_power, 2, (some .int), 1)
def mX11_digits : xM := (yX11_digits, cX11_digits, 4, (some .int), 1)
def mX11_digit : xM := (yX11_digit, cX11_digit, 5, (some .int), 2)
def mX11_point : xM := (yX11_point, cX11_point, 4, (some .int), 2)
def mX11_times : xM := (yX11_times, cX11_times, 3, (some .int), 1)
def mX11_ends : xM := (yX11_ends, cX11_ends, 4, (some .int), 2)
def mX11_alike : xM := (yX11_alike, cX11_alike, 4, (some .int), 1)
def mX11_isDefinition : xM := (yX11_isDefinition, cX11_isDefinition, 2, (some .boolean), 0)
def mX11_sort : xM := (yX11_sort, cX11_sort, 2, (some .int), 1)
def mX11_faultOf : xM := (yX11_faultOf, cX11_faultOf, 2, (some .int), 1)
def mX11_name : xM := (yX11_name, cX11_name, 3, (some .int), 1)
def mX11_told : xM := (yX11_told, cX11_told, 2, (some .int), 1)
def mJ6_numberOfLeadingZeros_0f7a4 : xM := (yJ6_numberOfLeadingZeros_0f7a4, cJ6_numberOfLeadingZeros_0f7a4, 2, (some .int), 0)
def mJ9_abs_0f7a4 : xM := (yJ9_abs_0f7a4, cJ9_abs_0f7a4, 1, (some .int), 0)
def mJ9_max_7cf53 : xM := (yJ9_max_7cf53, cJ9_max_7cf53, 2, (some .int), 0)
def mJ9_min_7cf53 : xM := (yJ9_min_7cf53, cJ9_min_7cf53, 2, (some .int), 0)
def mJ7_rangeCheck_23922 : xM := (yJ7_rangeCheck_23922, cJ7_rangeCheck_23922, 3, none, 0)
def mJ7_fill_fda19 : xM := (yJ7_fill_fda19, cJ7_fill_fda19, 5, none, 1)
def mL_cell : xM := (yL_cell, cL_cell, 2, (some .int), 0)
def mL_law : xM := (yL_law, cL_law, 4, (some .boolean), 10)

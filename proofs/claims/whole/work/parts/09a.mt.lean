abbrev mX0_init : MT := (yX0_init, cX0_init, 2, none)
theorem okX0_init : MOK mX0_init 1 := ⟨by decide, by decide, ⟨by decide, by decide⟩, by decide, List.mem_of_getElem? (i := 328) (by decide +kernel), (List.mem_of_getElem? (i := 12) (by decide +kernel))⟩
abbrev mX0_kind : MT := (yX0_kind, cX0_kind, 1, (some .int))
theorem okX0_kind : MOK mX0_kind 0 := ⟨by decide, by decide, ⟨by decide, by decide⟩, by decide, List.mem_of_getElem? (i := 461) (by decide +kernel), (List.mem_of_getElem? (i := 12) (by decide +kernel))⟩
abbrev mX0_and : MT := (yX0_and, cX0_and, 3, (some .int))
theorem okX0_and : MOK mX0_and 2 := ⟨by decide, by decide, ⟨by decide, by decide⟩, by decide, List.mem_of_getElem? (i := 401) (by decide +kernel), (List.mem_of_getElem? (i := 12) (by decide +kernel))⟩
abbrev mX0_andHasSides : MT := (yX0_andHasSides, cX0_andHasSides, 1, (some .boolean))
theorem okX0_andHasSides : MOK mX0_andHasSides 0 := ⟨by decide, by decide, ⟨by decide, by decide⟩, by decide, List.mem_of_getElem? (i := 597) (by decide +kernel), (List.mem_of_getElem? (i := 12) (by decide +kernel))⟩
abbrev mX1_init : MT := (yX1_init, cX1_init, 2, none)
theorem okX1_init : MOK mX1_init 1 := ⟨by decide, by decide, ⟨by decide, by decide⟩, by decide, List.mem_of_getElem? (i := 320) (by decide +kernel), (List.mem_of_getElem? (i := 11) (by decide +kernel))⟩
abbrev mX1_kind : MT := (yX1_kind, cX1_kind, 1, (some .int))
theorem okX1_kind : MOK mX1_kind 0 := ⟨by decide, by decide, ⟨by decide, by decide⟩, by decide, List.mem_of_getElem? (i := 464) (by decide +kernel), (List.mem_of_getElem? (i := 11) (by decide +kernel))⟩
abbrev mX1_not : MT := (yX1_not, cX1_not, 2, (some .int))
theorem okX1_not : MOK mX1_not 1 := ⟨by decide, by decide, ⟨by decide, by decide⟩, by decide, List.mem_of_getElem? (i := 381) (by decide +kernel), (List.mem_of_getElem? (i := 11) (by decide +kernel))⟩
abbrev mX2_init : MT := (yX2_init, cX2_init, 2, none)
theorem okX2_init : MOK mX2_init 1 := ⟨by decide, by decide, ⟨by decide, by decide⟩, by decide, List.mem_of_getElem? (i := 344) (by decide +kernel), (List.mem_of_getElem? (i := 14) (by decide +kernel))⟩
abbrev mX2_kind : MT := (yX2_kind, cX2_kind, 1, (some .int))
theorem okX2_kind : MOK mX2_kind 0 := ⟨by decide, by decide, ⟨by decide, by decide⟩, by decide, List.mem_of_getElem? (i := 467) (by decide +kernel), (List.mem_of_getElem? (i := 14) (by decide +kernel))⟩
abbrev mX2_not : MT := (yX2_not, cX2_not, 2, (some .int))
theorem okX2_not : MOK mX2_not 1 := ⟨by decide, by decide, ⟨by decide, by decide⟩, by decide, List.mem_of_getElem? (i := 384) (by decide +kernel), (List.mem_of_getElem? (i := 14) (by decide +kernel))⟩
abbrev mX3_init : MT := (yX3_init, cX3_init, 1, none)
theorem okX3_init : MOK mX3_init 0 := ⟨by decide, by decide, ⟨by decide, by decide⟩, by decide, List.mem_of_getElem? (i := 135) (by decide +kernel), (List.mem_of_getElem? (i := 8) (by decide +kernel))⟩
abbrev mX3_turnTo : MT := (yX3_turnTo, cX3_turnTo, 2, none)
theorem okX3_turnTo : MOK mX3_turnTo 1 := ⟨by decide, by decide, ⟨by decide, by decide⟩, by decide, List.mem_of_getElem? (i := 551) (by decide +kernel), (List.mem_of_getElem? (i := 8) (by decide +kernel))⟩
abbrev mX3_wordsFor : MT := (yX3_wordsFor, cX3_wordsFor, 4, (some .int))
theorem okX3_wordsFor : MOK mX3_wordsFor 1 := ⟨by decide, by decide, ⟨by decide, by decide⟩, by decide, List.mem_of_getElem? (i := 573) (by decide +kernel), (List.mem_of_getElem? (i := 8) (by decide +kernel))⟩
abbrev mX3_meaningsOfLength : MT := (yX3_meaningsOfLength, cX3_meaningsOfLength, 4, (some .int))
theorem okX3_meaningsOfLength : MOK mX3_meaningsOfLength 1 := ⟨by decide, by decide, ⟨by decide, by decide⟩, by decide, List.mem_of_getElem? (i := 621) (by decide +kernel), (List.mem_of_getElem? (i := 8) (by decide +kernel))⟩
abbrev mX3_farthestMeaning : MT := (yX3_farthestMeaning, cX3_farthestMeaning, 3, (some .int))
theorem okX3_farthestMeaning : MOK mX3_farthestMeaning 0 := ⟨by decide, by decide, ⟨by decide, by decide⟩, by decide, List.mem_of_getElem? (i := 629) (by decide +kernel), (List.mem_of_getElem? (i := 8) (by decide +kernel))⟩
abbrev mX3_isFor : MT := (yX3_isFor, cX3_isFor, 3, (some .boolean))
theorem okX3_isFor : MOK mX3_isFor 1 := ⟨by decide, by decide, ⟨by decide, by decide⟩, by decide, List.mem_of_getElem? (i := 555) (by decide +kernel), (List.mem_of_getElem? (i := 8) (by decide +kernel))⟩
abbrev mX3_isComplete : MT := (yX3_isComplete, cX3_isComplete, 1, (some .boolean))
theorem okX3_isComplete : MOK mX3_isComplete 0 := ⟨by decide, by decide, ⟨by decide, by decide⟩, by decide, List.mem_of_getElem? (i := 577) (by decide +kernel), (List.mem_of_getElem? (i := 8) (by decide +kernel))⟩
abbrev mX3_lookAtNextLength : MT := (yX3_lookAtNextLength, cX3_lookAtNextLength, 1, none)
theorem okX3_lookAtNextLength : MOK mX3_lookAtNextLength 0 := ⟨by decide, by decide, ⟨by decide, by decide⟩, by decide, List.mem_of_getElem? (i := 581) (by decide +kernel), (List.mem_of_getElem? (i := 8) (by decide +kernel))⟩
abbrev mX3_addLeaves : MT := (yX3_addLeaves, cX3_addLeaves, 2, none)
theorem okX3_addLeaves : MOK mX3_addLeaves 0 := ⟨by decide, by decide, ⟨by decide, by decide⟩, by decide, List.mem_of_getElem? (i := 564) (by decide +kernel), (List.mem_of_getElem? (i := 8) (by decide +kernel))⟩
abbrev mX3_addNots : MT := (yX3_addNots, cX3_addNots, 2, none)
theorem okX3_addNots : MOK mX3_addNots 0 := ⟨by decide, by decide, ⟨by decide, by decide⟩, by decide, List.mem_of_getElem? (i := 585) (by decide +kernel), (List.mem_of_getElem? (i := 8) (by decide +kernel))⟩
abbrev mX3_addJoined : MT := (yX3_addJoined, cX3_addJoined, 8, none)
theorem okX3_addJoined : MOK mX3_addJoined 0 := ⟨by decide, by decide, ⟨by decide, by decide⟩, by decide, List.mem_of_getElem? (i := 590) (by decide +kernel), (List.mem_of_getElem? (i := 8) (by decide +kernel))⟩
abbrev mX3_add : MT := (yX3_add, cX3_add, 3, none)
theorem okX3_add : MOK mX3_add 1 := ⟨by decide, by decide, ⟨by decide, by decide⟩, by decide, List.mem_of_getElem? (i := 569) (by decide +kernel), (List.mem_of_getElem? (i := 8) (by decide +kernel))⟩
abbrev mX4_init : MT := (yX4_init, cX4_init, 2, none)
theorem okX4_init : MOK mX4_init 1 := ⟨by decide, by decide, ⟨by decide, by decide⟩, by decide, List.mem_of_getElem? (i := 312) (by decide +kernel), (List.mem_of_getElem? (i := 10) (by decide +kernel))⟩
abbrev mX4_kind : MT := (yX4_kind, cX4_kind, 1, (some .int))
theorem okX4_kind : MOK mX4_kind 0 := ⟨by decide, by decide, ⟨by decide, by decide⟩, by decide, List.mem_of_getElem? (i := 470) (by decide +kernel), (List.mem_of_getElem? (i := 10) (by decide +kernel))⟩
abbrev mX4_or : MT := (yX4_or, cX4_or, 3, (some .int))
theorem okX4_or : MOK mX4_or 2 := ⟨by decide, by decide, ⟨by decide, by decide⟩, by decide, List.mem_of_getElem? (i := 416) (by decide +kernel), (List.mem_of_getElem? (i := 10) (by decide +kernel))⟩
abbrev mX5_init : MT := (yX5_init, cX5_init, 1, none)
theorem okX5_init : MOK mX5_init 0 := ⟨by decide, by decide, ⟨by decide, by decide⟩, by decide, List.mem_of_getElem? (i := 29) (by decide +kernel), (List.mem_of_getElem? (i := 2) (by decide +kernel))⟩
abbrev mX5_size : MT := (yX5_size, cX5_size, 1, (some .int))
theorem okX5_size : MOK mX5_size 0 := ⟨by decide, by decide, ⟨by decide, by decide⟩, by decide, List.mem_of_getElem? (i := 736) (by decide +kernel), (List.mem_of_getElem? (i := 2) (by decide +kernel))⟩
abbrev mX5_isFull : MT := (yX5_isFull, cX5_isFull, 1, (some .boolean))
theorem okX5_isFull : MOK mX5_isFull 0 := ⟨by decide, by decide, ⟨by decide, by decide⟩, by decide, List.mem_of_getElem? (i := 221) (by decide +kernel), (List.mem_of_getElem? (i := 2) (by decide +kernel))⟩
abbrev mX5_add : MT := (yX5_add, cX5_add, 2, (some .int))
theorem okX5_add : MOK mX5_add 1 := ⟨by decide, by decide, ⟨by decide, by decide⟩, by decide, List.mem_of_getElem? (i := 225) (by decide +kernel), (List.mem_of_getElem? (i := 2) (by decide +kernel))⟩
abbrev mX5_clear : MT := (yX5_clear, cX5_clear, 1, none)
theorem okX5_clear : MOK mX5_clear 0 := ⟨by decide, by decide, ⟨by decide, by decide⟩, by decide, List.mem_of_getElem? (i := 446) (by decide +kernel), (List.mem_of_getElem? (i := 2) (by decide +kernel))⟩
abbrev mX5_rewind : MT := (yX5_rewind, cX5_rewind, 1, none)
theorem okX5_rewind : MOK mX5_rewind 0 := ⟨by decide, by decide, ⟨by decide, by decide⟩, by decide, List.mem_of_getElem? (i := 280) (by decide +kernel), (List.mem_of_getElem? (i := 2) (by decide +kernel))⟩
abbrev mX5_place : MT := (yX5_place, cX5_place, 1, (some .int))
theorem okX5_place : MOK mX5_place 0 := ⟨by decide, by decide, ⟨by decide, by decide⟩, by decide, List.mem_of_getElem? (i := 285) (by decide +kernel), (List.mem_of_getElem? (i := 2) (by decide +kernel))⟩
abbrev mX5_haveMore : MT := (yX5_haveMore, cX5_haveMore, 1, (some .boolean))
theorem okX5_haveMore : MOK mX5_haveMore 0 := ⟨by decide, by decide, ⟨by decide, by decide⟩, by decide, List.mem_of_getElem? (i := 256) (by decide +kernel), (List.mem_of_getElem? (i := 2) (by decide +kernel))⟩
abbrev mX5_areWellFormed : MT := (yX5_areWellFormed, cX5_areWellFormed, 3, (some .boolean))
theorem okX5_areWellFormed : MOK mX5_areWellFormed 0 := ⟨by decide, by decide, ⟨by decide, by decide⟩, by decide, List.mem_of_getElem? (i := 233) (by decide +kernel), (List.mem_of_getElem? (i := 2) (by decide +kernel))⟩
abbrev mX5_next : MT := (yX5_next, cX5_next, 2, (some .int))
theorem okX5_next : MOK mX5_next 0 := ⟨by decide, by decide, ⟨by decide, by decide⟩, by decide, List.mem_of_getElem? (i := 293) (by decide +kernel), (List.mem_of_getElem? (i := 2) (by decide +kernel))⟩
abbrev mX5_nextDigit : MT := (yX5_nextDigit, cX5_nextDigit, 1, (some .int))
theorem okX5_nextDigit : MOK mX5_nextDigit 0 := ⟨by decide, by decide, ⟨by decide, by decide⟩, by decide, List.mem_of_getElem? (i := 297) (by decide +kernel), (List.mem_of_getElem? (i := 2) (by decide +kernel))⟩
abbrev mX5_nextName : MT := (yX5_nextName, cX5_nextName, 1, (some .int))
theorem okX5_nextName : MOK mX5_nextName 0 := ⟨by decide, by decide, ⟨by decide, by decide⟩, by decide, List.mem_of_getElem? (i := 360) (by decide +kernel), (List.mem_of_getElem? (i := 2) (by decide +kernel))⟩
abbrev mX5_readSaying : MT := (yX5_readSaying, cX5_readSaying, 5, none)
theorem okX5_readSaying : MOK mX5_readSaying 1 := ⟨by decide, by decide, ⟨by decide, by decide⟩, by decide, List.mem_of_getElem? (i := 351) (by decide +kernel), (List.mem_of_getElem? (i := 2) (by decide +kernel))⟩
abbrev mX5_here : MT := (yX5_here, cX5_here, 1, (some .int))
theorem okX5_here : MOK mX5_here 0 := ⟨by decide, by decide, ⟨by decide, by decide⟩, by decide, List.mem_of_getElem? (i := 241) (by decide +kernel), (List.mem_of_getElem? (i := 2) (by decide +kernel))⟩
abbrev mX5_passStatement : MT := (yX5_passStatement, cX5_passStatement, 1, (some .boolean))
theorem okX5_passStatement : MOK mX5_passStatement 0 := ⟨by decide, by decide, ⟨by decide, by decide⟩, by decide, List.mem_of_getElem? (i := 237) (by decide +kernel), (List.mem_of_getElem? (i := 2) (by decide +kernel))⟩
abbrev mX5_passWithin : MT := (yX5_passWithin, cX5_passWithin, 4, (some .boolean))
theorem okX5_passWithin : MOK mX5_passWithin 2 := ⟨by decide, by decide, ⟨by decide, by decide⟩, by decide, List.mem_of_getElem? (i := 245) (by decide +kernel), (List.mem_of_getElem? (i := 2) (by decide +kernel))⟩
abbrev mX5_passSaying : MT := (yX5_passSaying, cX5_passSaying, 4, (some .boolean))
theorem okX5_passSaying : MOK mX5_passSaying 0 := ⟨by decide, by decide, ⟨by decide, by decide⟩, by decide, List.mem_of_getElem? (i := 249) (by decide +kernel), (List.mem_of_getElem? (i := 2) (by decide +kernel))⟩
abbrev mX6_init : MT := (yX6_init, cX6_init, 1, none)
theorem okX6_init : MOK mX6_init 0 := ⟨by decide, by decide, ⟨by decide, by decide⟩, by decide, List.mem_of_getElem? (i := 114) (by decide +kernel), (List.mem_of_getElem? (i := 7) (by decide +kernel))⟩
abbrev mX6_become : MT := (yX6_become, cX6_become, 5, none)
theorem okX6_become : MOK mX6_become 3 := ⟨by decide, by decide, ⟨by decide, by decide⟩, by decide, List.mem_of_getElem? (i := 364) (by decide +kernel), (List.mem_of_getElem? (i := 7) (by decide +kernel))⟩
abbrev mX6_knowInMind : MT := (yX6_knowInMind, cX6_knowInMind, 2, none)
theorem okX6_knowInMind : MOK mX6_knowInMind 1 := ⟨by decide, by decide, ⟨by decide, by decide⟩, by decide, List.mem_of_getElem? (i := 641) (by decide +kernel), (List.mem_of_getElem? (i := 7) (by decide +kernel))⟩
abbrev mX6_meaningOf : MT := (yX6_meaningOf, cX6_meaningOf, 4, (some .int))
theorem okX6_meaningOf : MOK mX6_meaningOf 1 := ⟨by decide, by decide, ⟨by decide, by decide⟩, by decide, List.mem_of_getElem? (i := 368) (by decide +kernel), (List.mem_of_getElem? (i := 7) (by decide +kernel))⟩
abbrev mX6_hear : MT := (yX6_hear, cX6_hear, 6, (some .int))
theorem okX6_hear : MOK mX6_hear 2 := ⟨by decide, by decide, ⟨by decide, by decide⟩, by decide, List.mem_of_getElem? (i := 372) (by decide +kernel), (List.mem_of_getElem? (i := 7) (by decide +kernel))⟩
abbrev mX6_meaningOfLeaf : MT := (yX6_meaningOfLeaf, cX6_meaningOfLeaf, 4, (some .int))
theorem okX6_meaningOfLeaf : MOK mX6_meaningOfLeaf 1 := ⟨by decide, by decide, ⟨by decide, by decide⟩, by decide, List.mem_of_getElem? (i := 428) (by decide +kernel), (List.mem_of_getElem? (i := 7) (by decide +kernel))⟩
abbrev mX7_init : MT := (yX7_init, cX7_init, 1, none)
theorem okX7_init : MOK mX7_init 0 := ⟨by decide, by decide, ⟨by decide, by decide⟩, by decide, List.mem_of_getElem? (i := 55) (by decide +kernel), (List.mem_of_getElem? (i := 4) (by decide +kernel))⟩
abbrev mX7_partsOf : MT := (yX7_partsOf, cX7_partsOf, 1, (some .int))
theorem okX7_partsOf : MOK mX7_partsOf 1 := ⟨by decide, by decide, ⟨by decide, by decide⟩, by decide, List.mem_of_getElem? (i := 252) (by decide +kernel), (List.mem_of_getElem? (i := 4) (by decide +kernel))⟩
abbrev mX7_add : MT := (yX7_add, cX7_add, 2, none)
theorem okX7_add : MOK mX7_add 1 := ⟨by decide, by decide, ⟨by decide, by decide⟩, by decide, List.mem_of_getElem? (i := 276) (by decide +kernel), (List.mem_of_getElem? (i := 4) (by decide +kernel))⟩
abbrev mX7_copy : MT := (yX7_copy, cX7_copy, 2, none)
theorem okX7_copy : MOK mX7_copy 1 := ⟨by decide, by decide, ⟨by decide, by decide⟩, by decide, List.mem_of_getElem? (i := 268) (by decide +kernel), (List.mem_of_getElem? (i := 4) (by decide +kernel))⟩
abbrev mX7_copyWithPartAlone : MT := (yX7_copyWithPartAlone, cX7_copyWithPartAlone, 6, none)
theorem okX7_copyWithPartAlone : MOK mX7_copyWithPartAlone 3 := ⟨by decide, by decide, ⟨by decide, by decide⟩, by decide, List.mem_of_getElem? (i := 654) (by decide +kernel), (List.mem_of_getElem? (i := 4) (by decide +kernel))⟩
abbrev mX7_addFrom : MT := (yX7_addFrom, cX7_addFrom, 5, none)
theorem okX7_addFrom : MOK mX7_addFrom 3 := ⟨by decide, by decide, ⟨by decide, by decide⟩, by decide, List.mem_of_getElem? (i := 272) (by decide +kernel), (List.mem_of_getElem? (i := 4) (by decide +kernel))⟩
abbrev mX7_behind : MT := (yX7_behind, cX7_behind, 4, (some .int))
theorem okX7_behind : MOK mX7_behind 1 := ⟨by decide, by decide, ⟨by decide, by decide⟩, by decide, List.mem_of_getElem? (i := 658) (by decide +kernel), (List.mem_of_getElem? (i := 4) (by decide +kernel))⟩
abbrev mX8_init : MT := (yX8_init, cX8_init, 2, none)
theorem okX8_init : MOK mX8_init 0 := ⟨by decide, by decide, ⟨by decide, by decide⟩, by decide, List.mem_of_getElem? (i := 46) (by decide +kernel), (List.mem_of_getElem? (i := 3) (by decide +kernel))⟩
abbrev mX8_copy : MT := (yX8_copy, cX8_copy, 3, none)
theorem okX8_copy : MOK mX8_copy 1 := ⟨by decide, by decide, ⟨by decide, by decide⟩, by decide, List.mem_of_getElem? (i := 264) (by decide +kernel), (List.mem_of_getElem? (i := 3) (by decide +kernel))⟩
abbrev mX8_addStranger : MT := (yX8_addStranger, cX8_addStranger, 4, (some .boolean))
theorem okX8_addStranger : MOK mX8_addStranger 2 := ⟨by decide, by decide, ⟨by decide, by decide⟩, by decide, List.mem_of_getElem? (i := 302) (by decide +kernel), (List.mem_of_getElem? (i := 3) (by decide +kernel))⟩
abbrev mX8_addScholar : MT := (yX8_addScholar, cX8_addScholar, 2, (some .boolean))
theorem okX8_addScholar : MOK mX8_addScholar 1 := ⟨by decide, by decide, ⟨by decide, by decide⟩, by decide, List.mem_of_getElem? (i := 356) (by decide +kernel), (List.mem_of_getElem? (i := 3) (by decide +kernel))⟩
abbrev mX8_coinName : MT := (yX8_coinName, cX8_coinName, 3, (some .boolean))
theorem okX8_coinName : MOK mX8_coinName 2 := ⟨by decide, by decide, ⟨by decide, by decide⟩, by decide, List.mem_of_getElem? (i := 437) (by decide +kernel), (List.mem_of_getElem? (i := 3) (by decide +kernel))⟩
abbrev mX8_turnLearnt : MT := (yX8_turnLearnt, cX8_turnLearnt, 3, (some .boolean))
theorem okX8_turnLearnt : MOK mX8_turnLearnt 2 := ⟨by decide, by decide, ⟨by decide, by decide⟩, by decide, List.mem_of_getElem? (i := 442) (by decide +kernel), (List.mem_of_getElem? (i := 3) (by decide +kernel))⟩
abbrev mX8_coinedCount : MT := (yX8_coinedCount, cX8_coinedCount, 3, (some .int))
theorem okX8_coinedCount : MOK mX8_coinedCount 0 := ⟨by decide, by decide, ⟨by decide, by decide⟩, by decide, List.mem_of_getElem? (i := 728) (by decide +kernel), (List.mem_of_getElem? (i := 3) (by decide +kernel))⟩
abbrev mX8_lengths : MT := (yX8_lengths, cX8_lengths, 3, (some .int))
theorem okX8_lengths : MOK mX8_lengths 0 := ⟨by decide, by decide, ⟨by decide, by decide⟩, by decide, List.mem_of_getElem? (i := 732) (by decide +kernel), (List.mem_of_getElem? (i := 3) (by decide +kernel))⟩
abbrev mX9_init : MT := (yX9_init, cX9_init, 2, none)
theorem okX9_init : MOK mX9_init 1 := ⟨by decide, by decide, ⟨by decide, by decide⟩, by decide, List.mem_of_getElem? (i := 336) (by decide +kernel), (List.mem_of_getElem? (i := 13) (by decide +kernel))⟩
abbrev mX9_kind : MT := (yX9_kind, cX9_kind, 1, (some .int))
theorem okX9_kind : MOK mX9_kind 0 := ⟨by decide, by decide, ⟨by decide, by decide⟩, by decide, List.mem_of_getElem? (i := 473) (by decide +kernel), (List.mem_of_getElem? (i := 13) (by decide +kernel))⟩
abbrev mX9_or : MT := (yX9_or, cX9_or, 3, (some .int))
theorem okX9_or : MOK mX9_or 2 := ⟨by decide, by decide, ⟨by decide, by decide⟩, by decide, List.mem_of_getElem? (i := 419) (by decide +kernel), (List.mem_of_getElem? (i := 13) (by decide +kernel))⟩
abbrev mX10_init : MT := (yX10_init, cX10_init, 2, none)
theorem okX10_init : MOK mX10_init 1 := ⟨by decide, by decide, ⟨by decide, by decide⟩, by decide, List.mem_of_getElem? (i := 102) (by decide +kernel), (List.mem_of_getElem? (i := 6) (by decide +kernel))⟩
abbrev mX10_ofKind : MT := (yX10_ofKind, cX10_ofKind, 2, (some (.object "SaidShorter$Stranger")))
theorem okX10_ofKind : MOK mX10_ofKind 2 := ⟨by decide, by decide, ⟨by decide, by decide⟩, by decide, List.mem_of_getElem? (i := 305) (by decide +kernel), (List.mem_of_getElem? (i := 6) (by decide +kernel))⟩
abbrev mX10_kind : MT := (yX10_kind, cX10_kind, 1, (some .int))
theorem okX10_kind : MOK mX10_kind 0 := ⟨by decide, by decide, ⟨by decide, by decide⟩, by decide, List.mem_of_getElem? (i := 474) (by decide +kernel), (List.mem_of_getElem? (i := 6) (by decide +kernel))⟩
abbrev mX10_not : MT := (yX10_not, cX10_not, 2, (some .int))
theorem okX10_not : MOK mX10_not 1 := ⟨by decide, by decide, ⟨by decide, by decide⟩, by decide, List.mem_of_getElem? (i := 394) (by decide +kernel), (List.mem_of_getElem? (i := 6) (by decide +kernel))⟩
abbrev mX10_and : MT := (yX10_and, cX10_and, 3, (some .int))
theorem okX10_and : MOK mX10_and 2 := ⟨by decide, by decide, ⟨by decide, by decide⟩, by decide, List.mem_of_getElem? (i := 406) (by decide +kernel), (List.mem_of_getElem? (i := 6) (by decide +kernel))⟩
abbrev mX10_andHasSides : MT := (yX10_andHasSides, cX10_andHasSides, 1, (some .boolean))
theorem okX10_andHasSides : MOK mX10_andHasSides 0 := ⟨by decide, by decide, ⟨by decide, by decide⟩, by decide, List.mem_of_getElem? (i := 602) (by decide +kernel), (List.mem_of_getElem? (i := 6) (by decide +kernel))⟩
abbrev mX10_or : MT := (yX10_or, cX10_or, 3, (some .int))
theorem okX10_or : MOK mX10_or 2 := ⟨by decide, by decide, ⟨by decide, by decide⟩, by decide, List.mem_of_getElem? (i := 424) (by decide +kernel), (List.mem_of_getElem? (i := 6) (by decide +kernel))⟩
abbrev mX10_worldOfFigure : MT := (yX10_worldOfFigure, cX10_worldOfFigure, 1, (some .int))
theorem okX10_worldOfFigure : MOK mX10_worldOfFigure 0 := ⟨by decide, by decide, ⟨by decide, by decide⟩, by decide, List.mem_of_getElem? (i := 391) (by decide +kernel), (List.mem_of_getElem? (i := 6) (by decide +kernel))⟩
abbrev mX11_init : MT := (yX11_init, cX11_init, 2, none)
theorem okX11_init : MOK mX11_init 0 := ⟨by decide, by decide, ⟨by decide, by decide⟩, by decide, List.mem_of_getElem? (i := 21) (by decide +kernel), (List.mem_of_getElem? (i := 1) (by decide +kernel))⟩
abbrev mX11_feed : MT := (yX11_feed, cX11_feed, 2, (some .int))
theorem okX11_feed : MOK mX11_feed 1 := ⟨by decide, by decide, ⟨by decide, by decide⟩, by decide, List.mem_of_getElem? (i := 213) (by decide +kernel), (List.mem_of_getElem? (i := 1) (by decide +kernel))⟩
abbrev mX11_school : MT := (yX11_school, cX11_school, 2, (some .int))
theorem okX11_school : MOK mX11_school 0 := ⟨by decide, by decide, ⟨by decide, by decide⟩, by decide, List.mem_of_getElem? (i := 229) (by decide +kernel), (List.mem_of_getElem? (i := 1) (by decide +kernel))⟩
abbrev mX11_stranger : MT := (yX11_stranger, cX11_stranger, 3, (some .int))
theorem okX11_stranger : MOK mX11_stranger 2 := ⟨by decide, by decide, ⟨by decide, by decide⟩, by decide, List.mem_of_getElem? (i := 450) (by decide +kernel), (List.mem_of_getElem? (i := 1) (by decide +kernel))⟩
abbrev mX11_learn : MT := (yX11_learn, cX11_learn, 5, (some .int))
theorem okX11_learn : MOK mX11_learn 3 := ⟨by decide, by decide, ⟨by decide, by decide⟩, by decide, List.mem_of_getElem? (i := 478) (by decide +kernel), (List.mem_of_getElem? (i := 1) (by decide +kernel))⟩
abbrev mX11_name : MT := (yX11_name, cX11_name, 2, (some .int))
theorem okX11_name : MOK mX11_name 1 := ⟨by decide, by decide, ⟨by decide, by decide⟩, by decide, List.mem_of_getElem? (i := 483) (by decide +kernel), (List.mem_of_getElem? (i := 1) (by decide +kernel))⟩
abbrev mX11_coin : MT := (yX11_coin, cX11_coin, 4, (some .int))
theorem okX11_coin : MOK mX11_coin 2 := ⟨by decide, by decide, ⟨by decide, by decide⟩, by decide, List.mem_of_getElem? (i := 487) (by decide +kernel), (List.mem_of_getElem? (i := 1) (by decide +kernel))⟩
abbrev mX11_saying : MT := (yX11_saying, cX11_saying, 4, (some .int))
theorem okX11_saying : MOK mX11_saying 2 := ⟨by decide, by decide, ⟨by decide, by decide⟩, by decide, List.mem_of_getElem? (i := 491) (by decide +kernel), (List.mem_of_getElem? (i := 1) (by decide +kernel))⟩
abbrev mX11_leave : MT := (yX11_leave, cX11_leave, 1, (some .int))
theorem okX11_leave : MOK mX11_leave 0 := ⟨by decide, by decide, ⟨by decide, by decide⟩, by decide, List.mem_of_getElem? (i := 499) (by decide +kernel), (List.mem_of_getElem? (i := 1) (by decide +kernel))⟩
abbrev mX11_concludes : MT := (yX11_concludes, cX11_concludes, 3, (some .int))
theorem okX11_concludes : MOK mX11_concludes 2 := ⟨by decide, by decide, ⟨by decide, by decide⟩, by decide, List.mem_of_getElem? (i := 503) (by decide +kernel), (List.mem_of_getElem? (i := 1) (by decide +kernel))⟩
abbrev mX11_parts : MT := (yX11_parts, cX11_parts, 6, (some .int))
theorem okX11_parts : MOK mX11_parts 3 := ⟨by decide, by decide, ⟨by decide, by decide⟩, by decide, List.mem_of_getElem? (i := 519) (by decide +kernel), (List.mem_of_getElem? (i := 1) (by decide +kernel))⟩
abbrev mX11_won : MT := (yX11_won, cX11_won, 5, (some .int))
theorem okX11_won : MOK mX11_won 2 := ⟨by decide, by decide, ⟨by decide, by decide⟩, by decide, List.mem_of_getElem? (i := 523) (by decide +kernel), (List.mem_of_getElem? (i := 1) (by decide +kernel))⟩
abbrev mX11_masters : MT := (yX11_masters, cX11_masters, 4, (some .int))
theorem okX11_masters : MOK mX11_masters 1 := ⟨by decide, by decide, ⟨by decide, by decide⟩, by decide, List.mem_of_getElem? (i := 535) (by decide +kernel), (List.mem_of_getElem? (i := 1) (by decide +kernel))⟩
abbrev mX11_shortest : MT := (yX11_shortest, cX11_shortest, 3, (some .int))
theorem okX11_shortest : MOK mX11_shortest 2 := ⟨by decide, by decide, ⟨by decide, by decide⟩, by decide, List.mem_of_getElem? (i := 543) (by decide +kernel), (List.mem_of_getElem? (i := 1) (by decide +kernel))⟩
abbrev mX11_cut : MT := (yX11_cut, cX11_cut, 5, (some .int))
theorem okX11_cut : MOK mX11_cut 2 := ⟨by decide, by decide, ⟨by decide, by decide⟩, by decide, List.mem_of_getElem? (i := 608) (by decide +kernel), (List.mem_of_getElem? (i := 1) (by decide +kernel))⟩
abbrev mX11_many : MT := (yX11_many, cX11_many, 3, (some .int))
theorem okX11_many : MOK mX11_many 2 := ⟨by decide, by decide, ⟨by decide, by decide⟩, by decide, List.mem_of_getElem? (i := 617) (by decide +kernel), (List.mem_of_getElem? (i := 1) (by decide +kernel))⟩
abbrev mX11_farthest : MT := (yX11_farthest, cX11_farthest, 5, (some .int))
theorem okX11_farthest : MOK mX11_farthest 2 := ⟨by decide, by decide, ⟨by decide, by decide⟩, by decide, List.mem_of_getElem? (i := 625) (by decide +kernel), (List.mem_of_getElem? (i := 1) (by decide +kernel))⟩
abbrev mX11_saves : MT := (yX11_saves, cX11_saves, 5, (some .int))
theorem okX11_saves : MOK mX11_saves 2 := ⟨by decide, by decide, ⟨by decide, by decide⟩, by decide, List.mem_of_getElem? (i := 633) (by decide +kernel), (List.mem_of_getElem? (i := 1) (by decide +kernel))⟩
abbrev mX11_joined : MT := (yX11_joined, cX11_joined, 8, (some .int))
theorem okX11_joined : MOK mX11_joined 3 := ⟨by decide, by decide, ⟨by decide, by decide⟩, by decide, List.mem_of_getElem? (i := 645) (by decide +kernel), (List.mem_of_getElem? (i := 1) (by decide +kernel))⟩
abbrev mX11_drops : MT := (yX11_drops, cX11_drops, 11, (some .int))
theorem okX11_drops : MOK mX11_drops 3 := ⟨by decide, by decide, ⟨by decide, by decide⟩, by decide, List.mem_of_getElem? (i := 649) (by decide +kernel), (List.mem_of_getElem? (i := 1) (by decide +kernel))⟩
abbrev mX11_heard : MT := (yX11_heard, cX11_heard, 9, (some .int))
theorem okX11_heard : MOK mX11_heard 4 := ⟨by decide, by decide, ⟨by decide, by decide⟩, by decide, List.mem_of_getElem? (i := 666) (by decide +kernel), (List.mem_of_getElem? (i := 1) (by decide +kernel))⟩
abbrev mX11_unlike : MT := (yX11_unlike, cX11_unlike, 4, (some .int))
theorem okX11_unlike : MOK mX11_unlike 1 := ⟨by decide, by decide, ⟨by decide, by decide⟩, by decide, List.mem_of_getElem? (i := 673) (by decide +kernel), (List.mem_of_getElem? (i := 1) (by decide +kernel))⟩
abbrev mX11_agree : MT := (yX11_agree, cX11_agree, 4, (some .int))
theorem okX11_agree : MOK mX11_agree 0 := ⟨by decide, by decide, ⟨by decide, by decide⟩, by decide, List.mem_of_getElem? (i := 681) (by decide +kernel), (List.mem_of_getElem? (i := 1) (by decide +kernel))⟩
abbrev mX11_row : MT := (yX11_row, cX11_row, 2, (some .int))
theorem okX11_row : MOK mX11_row 1 := ⟨by decide, by decide, ⟨by decide, by decide⟩, by decide, List.mem_of_getElem? (i := 689) (by decide +kernel), (List.mem_of_getElem? (i := 1) (by decide +kernel))⟩
abbrev mX11_judge : MT := (yX11_judge, cX11_judge, 5, (some .int))
theorem okX11_judge : MOK mX11_judge 1 := ⟨by decide, by decide, ⟨by decide, by decide⟩, by decide, List.mem_of_getElem? (i := 693) (by decide +kernel), (List.mem_of_getElem? (i := 1) (by decide +kernel))⟩
abbrev mX11_seeds : MT := (yX11_seeds, cX11_seeds, 8, (some .int))
theorem okX11_seeds : MOK mX11_seeds 4 := ⟨by decide, by decide, ⟨by decide, by decide⟩, by decide, List.mem_of_getElem? (i := 697) (by decide +kernel), (List.mem_of_getElem? (i := 1) (by decide +kernel))⟩
abbrev mX11_image : MT := (yX11_image, cX11_image, 1, (some .int))
theorem okX11_image : MOK mX11_image 0 := ⟨by decide, by decide, ⟨by decide, by decide⟩, by decide, List.mem_of_getElem? (i := 716) (by decide +kernel), (List.mem_of_getElem? (i := 1) (by decide +kernel))⟩
abbrev mX11_restore : MT := (yX11_restore, cX11_restore, 1, (some .int))
theorem okX11_restore : MOK mX11_restore 0 := ⟨by decide, by decide, ⟨by decide, by decide⟩, by decide, List.mem_of_getElem? (i := 720) (by decide +kernel), (List.mem_of_getElem? (i := 1) (by decide +kernel))⟩
abbrev mX11_count : MT := (yX11_count, cX11_count, 2, (some .int))
theorem okX11_count : MOK mX11_count 1 := ⟨by decide, by decide, ⟨by decide, by decide⟩, by decide, List.mem_of_getElem? (i := 724) (by decide +kernel), (List.mem_of_getElem? (i := 1) (by decide +kernel))⟩
abbrev mX11_refusalsCounted : MT := (yX11_refusalsCounted, cX11_refusalsCounted, 2, (some .int))
theorem okX11_refusalsCounted : MOK mX11_refusalsCounted 1 := ⟨by decide, by decide, ⟨by decide, by decide⟩, by decide, List.mem_of_getElem? (i := 740) (by decide +kernel), (List.mem_of_getElem? (i := 1) (by decide +kernel))⟩
abbrev mX11_refused : MT := (yX11_refused, cX11_refused, 2, (some .int))
theorem okX11_refused : MOK mX11_refused 1 := ⟨by decide, by decide, ⟨by decide, by decide⟩, by decide, List.mem_of_getElem? (i := 217) (by decide +kernel), (List.mem_of_getElem? (i := 1) (by decide +kernel))⟩
abbrev mX11_refusedFarOff : MT := (yX11_refusedFarOff, cX11_refusedFarOff, 2, (some .int))
theorem okX11_refusedFarOff : MOK mX11_refusedFarOff 1 := ⟨by decide, by decide, ⟨by decide, by decide⟩, by decide, List.mem_of_getElem? (i := 612) (by decide +kernel), (List.mem_of_getElem? (i := 1) (by decide +kernel))⟩
abbrev mX11_noStranger : MT := (yX11_noStranger, cX11_noStranger, 2, (some .boolean))
theorem okX11_noStranger : MOK mX11_noStranger 1 := ⟨by decide, by decide, ⟨by decide, by decide⟩, by decide, List.mem_of_getElem? (i := 454) (by decide +kernel), (List.mem_of_getElem? (i := 1) (by decide +kernel))⟩
abbrev mX11_noListener : MT := (yX11_noListener, cX11_noListener, 2, (some .boolean))
theorem okX11_noListener : MOK mX11_noListener 1 := ⟨by decide, by decide, ⟨by decide, by decide⟩, by decide, List.mem_of_getElem? (i := 507) (by decide +kernel), (List.mem_of_getElem? (i := 1) (by decide +kernel))⟩
abbrev mX11_noScholar : MT := (yX11_noScholar, cX11_noScholar, 2, (some .boolean))
theorem okX11_noScholar : MOK mX11_noScholar 1 := ⟨by decide, by decide, ⟨by decide, by decide⟩, by decide, List.mem_of_getElem? (i := 495) (by decide +kernel), (List.mem_of_getElem? (i := 1) (by decide +kernel))⟩
abbrev mX11_noName : MT := (yX11_noName, cX11_noName, 1, (some .boolean))
theorem okX11_noName : MOK mX11_noName 1 := ⟨by decide, by decide, ⟨by decide, by decide⟩, by decide, List.mem_of_getElem? (i := 433) (by decide +kernel), (List.mem_of_getElem? (i := 1) (by decide +kernel))⟩
abbrev mX11_listenAs : MT := (yX11_listenAs, cX11_listenAs, 2, none)
theorem okX11_listenAs : MOK mX11_listenAs 1 := ⟨by decide, by decide, ⟨by decide, by decide⟩, by decide, List.mem_of_getElem? (i := 511) (by decide +kernel), (List.mem_of_getElem? (i := 1) (by decide +kernel))⟩
abbrev mX11_meaningOf : MT := (yX11_meaningOf, cX11_meaningOf, 2, (some .int))
theorem okX11_meaningOf : MOK mX11_meaningOf 1 := ⟨by decide, by decide, ⟨by decide, by decide⟩, by decide, List.mem_of_getElem? (i := 515) (by decide +kernel), (List.mem_of_getElem? (i := 1) (by decide +kernel))⟩
abbrev mX11_concludeAllAs : MT := (yX11_concludeAllAs, cX11_concludeAllAs, 3, none)
theorem okX11_concludeAllAs : MOK mX11_concludeAllAs 1 := ⟨by decide, by decide, ⟨by decide, by decide⟩, by decide, List.mem_of_getElem? (i := 527) (by decide +kernel), (List.mem_of_getElem? (i := 1) (by decide +kernel))⟩
abbrev mX11_beats : MT := (yX11_beats, cX11_beats, 3, (some .boolean))
theorem okX11_beats : MOK mX11_beats 2 := ⟨by decide, by decide, ⟨by decide, by decide⟩, by decide, List.mem_of_getElem? (i := 531) (by decide +kernel), (List.mem_of_getElem? (i := 1) (by decide +kernel))⟩
abbrev mX11_isBeaten : MT := (yX11_isBeaten, cX11_isBeaten, 3, (some .boolean))
theorem okX11_isBeaten : MOK mX11_isBeaten 1 := ⟨by decide, by decide, ⟨by decide, by decide⟩, by decide, List.mem_of_getElem? (i := 539) (by decide +kernel), (List.mem_of_getElem? (i := 1) (by decide +kernel))⟩
abbrev mX11_fewestFor : MT := (yX11_fewestFor, cX11_fewestFor, 3, (some (.object "SaidShorter$Fewest")))
theorem okX11_fewestFor : MOK mX11_fewestFor 1 := ⟨by decide, by decide, ⟨by decide, by decide⟩, by decide, List.mem_of_getElem? (i := 547) (by decide +kernel), (List.mem_of_getElem? (i := 1) (by decide +kernel))⟩
abbrev mX11_wordsSavedBy : MT := (yX11_wordsSavedBy, cX11_wordsSavedBy, 7, (some .int))
theorem okX11_wordsSavedBy : MOK mX11_wordsSavedBy 2 := ⟨by decide, by decide, ⟨by decide, by decide⟩, by decide, List.mem_of_getElem? (i := 637) (by decide +kernel), (List.mem_of_getElem? (i := 1) (by decide +kernel))⟩
abbrev mX11_isConcludedBefore : MT := (yX11_isConcludedBefore, cX11_isConcludedBefore, 5, (some .boolean))
theorem okX11_isConcludedBefore : MOK mX11_isConcludedBefore 2 := ⟨by decide, by decide, ⟨by decide, by decide⟩, by decide, List.mem_of_getElem? (i := 677) (by decide +kernel), (List.mem_of_getElem? (i := 1) (by decide +kernel))⟩
abbrev mX11_concludeAlike : MT := (yX11_concludeAlike, cX11_concludeAlike, 5, (some .boolean))
theorem okX11_concludeAlike : MOK mX11_concludeAlike 2 := ⟨by decide, by decide, ⟨by decide, by decide⟩, by decide, List.mem_of_getElem? (i := 685) (by decide +kernel), (List.mem_of_getElem? (i := 1) (by decide +kernel))⟩
abbrev mX11_drawSaying : MT := (yX11_drawSaying, cX11_drawSaying, 5, none)
theorem okX11_drawSaying : MOK mX11_drawSaying 1 := ⟨by decide, by decide, ⟨by decide, by decide⟩, by decide, List.mem_of_getElem? (i := 701) (by decide +kernel), (List.mem_of_getElem? (i := 1) (by decide +kernel))⟩
abbrev mX11_drawBelow : MT := (yX11_drawBelow, cX11_drawBelow, 2, (some .int))
theorem okX11_drawBelow : MOK mX11_drawBelow 1 := ⟨by decide, by decide, ⟨by decide, by decide⟩, by decide, List.mem_of_getElem? (i := 708) (by decide +kernel), (List.mem_of_getElem? (i := 1) (by decide +kernel))⟩
abbrev mX11_tellAll : MT := (yX11_tellAll, cX11_tellAll, 3, (some .int))
theorem okX11_tellAll : MOK mX11_tellAll 0 := ⟨by decide, by decide, ⟨by decide, by decide⟩, by decide, List.mem_of_getElem? (i := 260) (by decide +kernel), (List.mem_of_getElem? (i := 1) (by decide +kernel))⟩
abbrev mX11_tellStatement : MT := (yX11_tellStatement, cX11_tellStatement, 6, (some .boolean))
theorem okX11_tellStatement : MOK mX11_tellStatement 0 := ⟨by decide, by decide, ⟨by decide, by decide⟩, by decide, List.mem_of_getElem? (i := 289) (by decide +kernel), (List.mem_of_getElem? (i := 1) (by decide +kernel))⟩
abbrev mX12_init : MT := (yX12_init, cX12_init, 1, none)
theorem okX12_init : MOK mX12_init 0 := ⟨by decide, by decide, ⟨by decide, by decide⟩, by decide, List.mem_of_getElem? (i := 745) (by decide +kernel), (List.mem_of_getElem? (i := 9) (by decide +kernel))⟩
abbrev mX12_no : MT := (yX12_no, cX12_no, 2, (some .int))
theorem okX12_no : MOK mX12_no 1 := ⟨by decide, by decide, ⟨by decide, by decide⟩, by decide, List.mem_of_getElem? (i := 857) (by decide +kernel), (List.mem_of_getElem? (i := 9) (by decide +kernel))⟩
abbrev mX12_lower : MT := (yX12_lower, cX12_lower, 2, (some .int))
theorem okX12_lower : MOK mX12_lower 1 := ⟨by decide, by decide, ⟨by decide, by decide⟩, by decide, List.mem_of_getElem? (i := 1052) (by decide +kernel), (List.mem_of_getElem? (i := 9) (by decide +kernel))⟩
abbrev mX12_isIn : MT := (yX12_isIn, cX12_isIn, 3, (some .boolean))
theorem okX12_isIn : MOK mX12_isIn 3 := ⟨by decide, by decide, ⟨by decide, by decide⟩, by decide, List.mem_of_getElem? (i := 880) (by decide +kernel), (List.mem_of_getElem? (i := 9) (by decide +kernel))⟩
abbrev mX12_bound : MT := (yX12_bound, cX12_bound, 3, (some .int))
theorem okX12_bound : MOK mX12_bound 3 := ⟨by decide, by decide, ⟨by decide, by decide⟩, by decide, List.mem_of_getElem? (i := 853) (by decide +kernel), (List.mem_of_getElem? (i := 9) (by decide +kernel))⟩
abbrev mX12_isWho : MT := (yX12_isWho, cX12_isWho, 2, (some .boolean))
theorem okX12_isWho : MOK mX12_isWho 1 := ⟨by decide, by decide, ⟨by decide, by decide⟩, by decide, List.mem_of_getElem? (i := 1000) (by decide +kernel), (List.mem_of_getElem? (i := 9) (by decide +kernel))⟩
abbrev mX12_isStranger : MT := (yX12_isStranger, cX12_isStranger, 2, (some .boolean))
theorem okX12_isStranger : MOK mX12_isStranger 1 := ⟨by decide, by decide, ⟨by decide, by decide⟩, by decide, List.mem_of_getElem? (i := 951) (by decide +kernel), (List.mem_of_getElem? (i := 9) (by decide +kernel))⟩
abbrev mX12_isScholar : MT := (yX12_isScholar, cX12_isScholar, 2, (some .boolean))
theorem okX12_isScholar : MOK mX12_isScholar 1 := ⟨by decide, by decide, ⟨by decide, by decide⟩, by decide, List.mem_of_getElem? (i := 986) (by decide +kernel), (List.mem_of_getElem? (i := 9) (by decide +kernel))⟩
abbrev mX12_isName : MT := (yX12_isName, cX12_isName, 1, (some .boolean))
theorem okX12_isName : MOK mX12_isName 1 := ⟨by decide, by decide, ⟨by decide, by decide⟩, by decide, List.mem_of_getElem? (i := 970) (by decide +kernel), (List.mem_of_getElem? (i := 9) (by decide +kernel))⟩
abbrev mX12_feed : MT := (yX12_feed, cX12_feed, 3, (some .int))
theorem okX12_feed : MOK mX12_feed 1 := ⟨by decide, by decide, ⟨by decide, by decide⟩, by decide, List.mem_of_getElem? (i := 850) (by decide +kernel), (List.mem_of_getElem? (i := 9) (by decide +kernel))⟩
abbrev mX12_next : MT := (yX12_next, cX12_next, 1, (some .int))
theorem okX12_next : MOK mX12_next 0 := ⟨by decide, by decide, ⟨by decide, by decide⟩, by decide, List.mem_of_getElem? (i := 869) (by decide +kernel), (List.mem_of_getElem? (i := 9) (by decide +kernel))⟩
abbrev mX12_wordOf : MT := (yX12_wordOf, cX12_wordOf, 1, (some .int))
theorem okX12_wordOf : MOK mX12_wordOf 1 := ⟨by decide, by decide, ⟨by decide, by decide⟩, by decide, List.mem_of_getElem? (i := 887) (by decide +kernel), (List.mem_of_getElem? (i := 9) (by decide +kernel))⟩
abbrev mX12_readsDigit : MT := (yX12_readsDigit, cX12_readsDigit, 2, (some .boolean))
theorem okX12_readsDigit : MOK mX12_readsDigit 1 := ⟨by decide, by decide, ⟨by decide, by decide⟩, by decide, List.mem_of_getElem? (i := 877) (by decide +kernel), (List.mem_of_getElem? (i := 9) (by decide +kernel))⟩
abbrev mX12_readsName : MT := (yX12_readsName, cX12_readsName, 2, (some .boolean))
theorem okX12_readsName : MOK mX12_readsName 1 := ⟨by decide, by decide, ⟨by decide, by decide⟩, by decide, List.mem_of_getElem? (i := 891) (by decide +kernel), (List.mem_of_getElem? (i := 9) (by decide +kernel))⟩
abbrev mX12_readsSaying : MT := (yX12_readsSaying, cX12_readsSaying, 3, (some .boolean))
theorem okX12_readsSaying : MOK mX12_readsSaying 0 := ⟨by decide, by decide, ⟨by decide, by decide⟩, by decide, List.mem_of_getElem? (i := 884) (by decide +kernel), (List.mem_of_getElem? (i := 9) (by decide +kernel))⟩
abbrev mX12_readsAll : MT := (yX12_readsAll, cX12_readsAll, 3, (some .boolean))
theorem okX12_readsAll : MOK mX12_readsAll 2 := ⟨by decide, by decide, ⟨by decide, by decide⟩, by decide, List.mem_of_getElem? (i := 873) (by decide +kernel), (List.mem_of_getElem? (i := 9) (by decide +kernel))⟩
abbrev mX12_statement : MT := (yX12_statement, cX12_statement, 2, (some .boolean))
theorem okX12_statement : MOK mX12_statement 0 := ⟨by decide, by decide, ⟨by decide, by decide⟩, by decide, List.mem_of_getElem? (i := 865) (by decide +kernel), (List.mem_of_getElem? (i := 9) (by decide +kernel))⟩
abbrev mX12_lays : MT := (yX12_lays, cX12_lays, 3, none)
theorem okX12_lays : MOK mX12_lays 1 := ⟨by decide, by decide, ⟨by decide, by decide⟩, by decide, List.mem_of_getElem? (i := 911) (by decide +kernel), (List.mem_of_getElem? (i := 9) (by decide +kernel))⟩
abbrev mX12_comes : MT := (yX12_comes, cX12_comes, 5, (some .boolean))
theorem okX12_comes : MOK mX12_comes 1 := ⟨by decide, by decide, ⟨by decide, by decide⟩, by decide, List.mem_of_getElem? (i := 907) (by decide +kernel), (List.mem_of_getElem? (i := 9) (by decide +kernel))⟩
abbrev mX12_school : MT := (yX12_school, cX12_school, 3, (some .int))
theorem okX12_school : MOK mX12_school 0 := ⟨by decide, by decide, ⟨by decide, by decide⟩, by decide, List.mem_of_getElem? (i := 861) (by decide +kernel), (List.mem_of_getElem? (i := 9) (by decide +kernel))⟩
abbrev mX12_passes : MT := (yX12_passes, cX12_passes, 3, none)
theorem okX12_passes : MOK mX12_passes 1 := ⟨by decide, by decide, ⟨by decide, by decide⟩, by decide, List.mem_of_getElem? (i := 899) (by decide +kernel), (List.mem_of_getElem? (i := 9) (by decide +kernel))⟩
abbrev mX12_passOne : MT := (yX12_passOne, cX12_passOne, 3, (some .int))
theorem okX12_passOne : MOK mX12_passOne 1 := ⟨by decide, by decide, ⟨by decide, by decide⟩, by decide, List.mem_of_getElem? (i := 903) (by decide +kernel), (List.mem_of_getElem? (i := 9) (by decide +kernel))⟩
abbrev mX12_passesAll : MT := (yX12_passesAll, cX12_passesAll, 3, none)
theorem okX12_passesAll : MOK mX12_passesAll 2 := ⟨by decide, by decide, ⟨by decide, by decide⟩, by decide, List.mem_of_getElem? (i := 895) (by decide +kernel), (List.mem_of_getElem? (i := 9) (by decide +kernel))⟩
abbrev mX12_image : MT := (yX12_image, cX12_image, 1, (some .int))
theorem okX12_image : MOK mX12_image 0 := ⟨by decide, by decide, ⟨by decide, by decide⟩, by decide, List.mem_of_getElem? (i := 955) (by decide +kernel), (List.mem_of_getElem? (i := 9) (by decide +kernel))⟩
abbrev mX12_restore : MT := (yX12_restore, cX12_restore, 1, (some .int))
theorem okX12_restore : MOK mX12_restore 0 := ⟨by decide, by decide, ⟨by decide, by decide⟩, by decide, List.mem_of_getElem? (i := 959) (by decide +kernel), (List.mem_of_getElem? (i := 9) (by decide +kernel))⟩
abbrev mX12_kindOf : MT := (yX12_kindOf, cX12_kindOf, 2, (some .int))
theorem okX12_kindOf : MOK mX12_kindOf 1 := ⟨by decide, by decide, ⟨by decide, by decide⟩, by decide, List.mem_of_getElem? (i := 935) (by decide +kernel), (List.mem_of_getElem? (i := 9) (by decide +kernel))⟩
abbrev mX12_worldOf : MT := (yX12_worldOf, cX12_worldOf, 2, (some .int))
theorem okX12_worldOf : MOK mX12_worldOf 1 := ⟨by decide, by decide, ⟨by decide, by decide⟩, by decide, List.mem_of_getElem? (i := 939) (by decide +kernel), (List.mem_of_getElem? (i := 9) (by decide +kernel))⟩
abbrev mX12_learntBy : MT := (yX12_learntBy, cX12_learntBy, 2, (some .int))
theorem okX12_learntBy : MOK mX12_learntBy 1 := ⟨by decide, by decide, ⟨by decide, by decide⟩, by decide, List.mem_of_getElem? (i := 927) (by decide +kernel), (List.mem_of_getElem? (i := 9) (by decide +kernel))⟩
abbrev mX12_notOf : MT := (yX12_notOf, cX12_notOf, 4, (some .int))
theorem okX12_notOf : MOK mX12_notOf 2 := ⟨by decide, by decide, ⟨by decide, by decide⟩, by decide, List.mem_of_getElem? (i := 931) (by decide +kernel), (List.mem_of_getElem? (i := 9) (by decide +kernel))⟩
abbrev mX12_andOf : MT := (yX12_andOf, cX12_andOf, 4, (some .int))
theorem okX12_andOf : MOK mX12_andOf 3 := ⟨by decide, by decide, ⟨by decide, by decide⟩, by decide, List.mem_of_getElem? (i := 943) (by decide +kernel), (List.mem_of_getElem? (i := 9) (by decide +kernel))⟩
abbrev mX12_orOf : MT := (yX12_orOf, cX12_orOf, 5, (some .int))
theorem okX12_orOf : MOK mX12_orOf 3 := ⟨by decide, by decide, ⟨by decide, by decide⟩, by decide, List.mem_of_getElem? (i := 947) (by decide +kernel), (List.mem_of_getElem? (i := 9) (by decide +kernel))⟩
abbrev mX12_nameTo : MT := (yX12_nameTo, cX12_nameTo, 3, (some .int))
theorem okX12_nameTo : MOK mX12_nameTo 2 := ⟨by decide, by decide, ⟨by decide, by decide⟩, by decide, List.mem_of_getElem? (i := 923) (by decide +kernel), (List.mem_of_getElem? (i := 9) (by decide +kernel))⟩
abbrev mX12_factOrName : MT := (yX12_factOrName, cX12_factOrName, 3, (some .int))
theorem okX12_factOrName : MOK mX12_factOrName 2 := ⟨by decide, by decide, ⟨by decide, by decide⟩, by decide, List.mem_of_getElem? (i := 919) (by decide +kernel), (List.mem_of_getElem? (i := 9) (by decide +kernel))⟩
abbrev mX12_concluded : MT := (yX12_concluded, cX12_concluded, 5, (some .int))
theorem okX12_concluded : MOK mX12_concluded 1 := ⟨by decide, by decide, ⟨by decide, by decide⟩, by decide, List.mem_of_getElem? (i := 915) (by decide +kernel), (List.mem_of_getElem? (i := 9) (by decide +kernel))⟩
abbrev mX12_laysSaying : MT := (yX12_laysSaying, cX12_laysSaying, 3, none)
theorem okX12_laysSaying : MOK mX12_laysSaying 1 := ⟨by decide, by decide, ⟨by decide, by decide⟩, by decide, List.mem_of_getElem? (i := 1008) (by decide +kernel), (List.mem_of_getElem? (i := 9) (by decide +kernel))⟩
abbrev mX12_concludedFrom : MT := (yX12_concludedFrom, cX12_concludedFrom, 3, (some .int))
theorem okX12_concludedFrom : MOK mX12_concludedFrom 2 := ⟨by decide, by decide, ⟨by decide, by decide⟩, by decide, List.mem_of_getElem? (i := 1004) (by decide +kernel), (List.mem_of_getElem? (i := 9) (by decide +kernel))⟩
abbrev mX12_stranger : MT := (yX12_stranger, cX12_stranger, 3, (some .int))
theorem okX12_stranger : MOK mX12_stranger 2 := ⟨by decide, by decide, ⟨by decide, by decide⟩, by decide, List.mem_of_getElem? (i := 963) (by decide +kernel), (List.mem_of_getElem? (i := 9) (by decide +kernel))⟩
abbrev mX12_learn : MT := (yX12_learn, cX12_learn, 5, (some .int))
theorem okX12_learn : MOK mX12_learn 3 := ⟨by decide, by decide, ⟨by decide, by decide⟩, by decide, List.mem_of_getElem? (i := 967) (by decide +kernel), (List.mem_of_getElem? (i := 9) (by decide +kernel))⟩
abbrev mX12_name : MT := (yX12_name, cX12_name, 2, (some .int))
theorem okX12_name : MOK mX12_name 1 := ⟨by decide, by decide, ⟨by decide, by decide⟩, by decide, List.mem_of_getElem? (i := 974) (by decide +kernel), (List.mem_of_getElem? (i := 9) (by decide +kernel))⟩
abbrev mX12_coin : MT := (yX12_coin, cX12_coin, 5, (some .int))
theorem okX12_coin : MOK mX12_coin 2 := ⟨by decide, by decide, ⟨by decide, by decide⟩, by decide, List.mem_of_getElem? (i := 978) (by decide +kernel), (List.mem_of_getElem? (i := 9) (by decide +kernel))⟩
abbrev mX12_saying : MT := (yX12_saying, cX12_saying, 3, (some .int))
theorem okX12_saying : MOK mX12_saying 2 := ⟨by decide, by decide, ⟨by decide, by decide⟩, by decide, List.mem_of_getElem? (i := 982) (by decide +kernel), (List.mem_of_getElem? (i := 9) (by decide +kernel))⟩
abbrev mX12_leave : MT := (yX12_leave, cX12_leave, 1, (some .int))
theorem okX12_leave : MOK mX12_leave 0 := ⟨by decide, by decide, ⟨by decide, by decide⟩, by decide, List.mem_of_getElem? (i := 992) (by decide +kernel), (List.mem_of_getElem? (i := 9) (by decide +kernel))⟩
abbrev mX12_concludes : MT := (yX12_concludes, cX12_concludes, 3, (some .int))
theorem okX12_concludes : MOK mX12_concludes 2 := ⟨by decide, by decide, ⟨by decide, by decide⟩, by decide, List.mem_of_getElem? (i := 996) (by decide +kernel), (List.mem_of_getElem? (i := 9) (by decide +kernel))⟩
abbrev mX12_parts : MT := (yX12_parts, cX12_parts, 6, (some .int))
theorem okX12_parts : MOK mX12_parts 3 := ⟨by decide, by decide, ⟨by decide, by decide⟩, by decide, List.mem_of_getElem? (i := 1012) (by decide +kernel), (List.mem_of_getElem? (i := 9) (by decide +kernel))⟩
abbrev mX12_doesBeat : MT := (yX12_doesBeat, cX12_doesBeat, 4, (some .boolean))
theorem okX12_doesBeat : MOK mX12_doesBeat 3 := ⟨by decide, by decide, ⟨by decide, by decide⟩, by decide, List.mem_of_getElem? (i := 1020) (by decide +kernel), (List.mem_of_getElem? (i := 9) (by decide +kernel))⟩
abbrev mX12_won : MT := (yX12_won, cX12_won, 5, (some .int))
theorem okX12_won : MOK mX12_won 2 := ⟨by decide, by decide, ⟨by decide, by decide⟩, by decide, List.mem_of_getElem? (i := 1016) (by decide +kernel), (List.mem_of_getElem? (i := 9) (by decide +kernel))⟩
abbrev mX12_masters : MT := (yX12_masters, cX12_masters, 5, (some .int))
theorem okX12_masters : MOK mX12_masters 1 := ⟨by decide, by decide, ⟨by decide, by decide⟩, by decide, List.mem_of_getElem? (i := 1024) (by decide +kernel), (List.mem_of_getElem? (i := 9) (by decide +kernel))⟩
abbrev mX12_lowers : MT := (yX12_lowers, cX12_lowers, 3, none)
theorem okX12_lowers : MOK mX12_lowers 2 := ⟨by decide, by decide, ⟨by decide, by decide⟩, by decide, List.mem_of_getElem? (i := 1040) (by decide +kernel), (List.mem_of_getElem? (i := 9) (by decide +kernel))⟩
abbrev mX12_goesOn : MT := (yX12_goesOn, cX12_goesOn, 4, none)
theorem okX12_goesOn : MOK mX12_goesOn 1 := ⟨by decide, by decide, ⟨by decide, by decide⟩, by decide, List.mem_of_getElem? (i := 1036) (by decide +kernel), (List.mem_of_getElem? (i := 9) (by decide +kernel))⟩
abbrev mX12_findShortest : MT := (yX12_findShortest, cX12_findShortest, 4, none)
theorem okX12_findShortest : MOK mX12_findShortest 2 := ⟨by decide, by decide, ⟨by decide, by decide⟩, by decide, List.mem_of_getElem? (i := 1032) (by decide +kernel), (List.mem_of_getElem? (i := 9) (by decide +kernel))⟩
abbrev mX12_shortestOf : MT := (yX12_shortestOf, cX12_shortestOf, 2, (some .int))
theorem okX12_shortestOf : MOK mX12_shortestOf 1 := ⟨by decide, by decide, ⟨by decide, by decide⟩, by decide, List.mem_of_getElem? (i := 1044) (by decide +kernel), (List.mem_of_getElem? (i := 9) (by decide +kernel))⟩
abbrev mX12_shortest : MT := (yX12_shortest, cX12_shortest, 4, (some .int))
theorem okX12_shortest : MOK mX12_shortest 2 := ⟨by decide, by decide, ⟨by decide, by decide⟩, by decide, List.mem_of_getElem? (i := 1028) (by decide +kernel), (List.mem_of_getElem? (i := 9) (by decide +kernel))⟩
abbrev mX12_cut : MT := (yX12_cut, cX12_cut, 4, (some .int))
theorem okX12_cut : MOK mX12_cut 2 := ⟨by decide, by decide, ⟨by decide, by decide⟩, by decide, List.mem_of_getElem? (i := 1048) (by decide +kernel), (List.mem_of_getElem? (i := 9) (by decide +kernel))⟩
abbrev mX12_many : MT := (yX12_many, cX12_many, 6, (some .int))
theorem okX12_many : MOK mX12_many 2 := ⟨by decide, by decide, ⟨by decide, by decide⟩, by decide, List.mem_of_getElem? (i := 1057) (by decide +kernel), (List.mem_of_getElem? (i := 9) (by decide +kernel))⟩
abbrev mX12_farthest : MT := (yX12_farthest, cX12_farthest, 5, (some .int))
theorem okX12_farthest : MOK mX12_farthest 2 := ⟨by decide, by decide, ⟨by decide, by decide⟩, by decide, List.mem_of_getElem? (i := 1061) (by decide +kernel), (List.mem_of_getElem? (i := 9) (by decide +kernel))⟩
abbrev mX12_saves : MT := (yX12_saves, cX12_saves, 7, (some .int))
theorem okX12_saves : MOK mX12_saves 2 := ⟨by decide, by decide, ⟨by decide, by decide⟩, by decide, List.mem_of_getElem? (i := 1065) (by decide +kernel), (List.mem_of_getElem? (i := 9) (by decide +kernel))⟩
abbrev mX12_joined : MT := (yX12_joined, cX12_joined, 6, (some .int))
theorem okX12_joined : MOK mX12_joined 3 := ⟨by decide, by decide, ⟨by decide, by decide⟩, by decide, List.mem_of_getElem? (i := 1069) (by decide +kernel), (List.mem_of_getElem? (i := 9) (by decide +kernel))⟩
abbrev mX12_behind : MT := (yX12_behind, cX12_behind, 6, (some .int))
theorem okX12_behind : MOK mX12_behind 2 := ⟨by decide, by decide, ⟨by decide, by decide⟩, by decide, List.mem_of_getElem? (i := 1085) (by decide +kernel), (List.mem_of_getElem? (i := 9) (by decide +kernel))⟩
abbrev mX12_laysBut : MT := (yX12_laysBut, cX12_laysBut, 6, none)
theorem okX12_laysBut : MOK mX12_laysBut 4 := ⟨by decide, by decide, ⟨by decide, by decide⟩, by decide, List.mem_of_getElem? (i := 1077) (by decide +kernel), (List.mem_of_getElem? (i := 9) (by decide +kernel))⟩
abbrev mX12_tells : MT := (yX12_tells, cX12_tells, 3, none)
theorem okX12_tells : MOK mX12_tells 2 := ⟨by decide, by decide, ⟨by decide, by decide⟩, by decide, List.mem_of_getElem? (i := 1081) (by decide +kernel), (List.mem_of_getElem? (i := 9) (by decide +kernel))⟩
abbrev mX12_drops : MT := (yX12_drops, cX12_drops, 8, (some .int))
theorem okX12_drops : MOK mX12_drops 3 := ⟨by decide, by decide, ⟨by decide, by decide⟩, by decide, List.mem_of_getElem? (i := 1073) (by decide +kernel), (List.mem_of_getElem? (i := 9) (by decide +kernel))⟩
abbrev mX12_isAlike : MT := (yX12_isAlike, cX12_isAlike, 2, (some .boolean))
theorem okX12_isAlike : MOK mX12_isAlike 2 := ⟨by decide, by decide, ⟨by decide, by decide⟩, by decide, List.mem_of_getElem? (i := 1092) (by decide +kernel), (List.mem_of_getElem? (i := 9) (by decide +kernel))⟩
abbrev mX12_heard : MT := (yX12_heard, cX12_heard, 9, (some .int))
theorem okX12_heard : MOK mX12_heard 4 := ⟨by decide, by decide, ⟨by decide, by decide⟩, by decide, List.mem_of_getElem? (i := 1089) (by decide +kernel), (List.mem_of_getElem? (i := 9) (by decide +kernel))⟩
abbrev mX12_unlike : MT := (yX12_unlike, cX12_unlike, 6, (some .int))
theorem okX12_unlike : MOK mX12_unlike 1 := ⟨by decide, by decide, ⟨by decide, by decide⟩, by decide, List.mem_of_getElem? (i := 1096) (by decide +kernel), (List.mem_of_getElem? (i := 9) (by decide +kernel))⟩
abbrev mX12_doAgree : MT := (yX12_doAgree, cX12_doAgree, 4, (some .boolean))
theorem okX12_doAgree : MOK mX12_doAgree 2 := ⟨by decide, by decide, ⟨by decide, by decide⟩, by decide, List.mem_of_getElem? (i := 1104) (by decide +kernel), (List.mem_of_getElem? (i := 9) (by decide +kernel))⟩
abbrev mX12_agree : MT := (yX12_agree, cX12_agree, 4, (some .int))
theorem okX12_agree : MOK mX12_agree 0 := ⟨by decide, by decide, ⟨by decide, by decide⟩, by decide, List.mem_of_getElem? (i := 1100) (by decide +kernel), (List.mem_of_getElem? (i := 9) (by decide +kernel))⟩
abbrev mX12_row : MT := (yX12_row, cX12_row, 3, (some .int))
theorem okX12_row : MOK mX12_row 1 := ⟨by decide, by decide, ⟨by decide, by decide⟩, by decide, List.mem_of_getElem? (i := 1108) (by decide +kernel), (List.mem_of_getElem? (i := 9) (by decide +kernel))⟩
abbrev mX12_judge : MT := (yX12_judge, cX12_judge, 5, (some .int))
theorem okX12_judge : MOK mX12_judge 1 := ⟨by decide, by decide, ⟨by decide, by decide⟩, by decide, List.mem_of_getElem? (i := 1112) (by decide +kernel), (List.mem_of_getElem? (i := 9) (by decide +kernel))⟩
abbrev mX12_draw : MT := (yX12_draw, cX12_draw, 2, (some .int))
theorem okX12_draw : MOK mX12_draw 1 := ⟨by decide, by decide, ⟨by decide, by decide⟩, by decide, List.mem_of_getElem? (i := 1124) (by decide +kernel), (List.mem_of_getElem? (i := 9) (by decide +kernel))⟩
abbrev mX12_draws : MT := (yX12_draws, cX12_draws, 7, none)
theorem okX12_draws : MOK mX12_draws 0 := ⟨by decide, by decide, ⟨by decide, by decide⟩, by decide, List.mem_of_getElem? (i := 1120) (by decide +kernel), (List.mem_of_getElem? (i := 9) (by decide +kernel))⟩
abbrev mX12_seeds : MT := (yX12_seeds, cX12_seeds, 9, (some .int))
theorem okX12_seeds : MOK mX12_seeds 4 := ⟨by decide, by decide, ⟨by decide, by decide⟩, by decide, List.mem_of_getElem? (i := 1116) (by decide +kernel), (List.mem_of_getElem? (i := 9) (by decide +kernel))⟩
abbrev mX12_count : MT := (yX12_count, cX12_count, 4, (some .int))
theorem okX12_count : MOK mX12_count 1 := ⟨by decide, by decide, ⟨by decide, by decide⟩, by decide, List.mem_of_getElem? (i := 1131) (by decide +kernel), (List.mem_of_getElem? (i := 9) (by decide +kernel))⟩
abbrev mJ9_min_7cf53 : MT := (yJ9_min_7cf53, cJ9_min_7cf53, 2, (some .int))
abbrev mJ7_fill_53178 : MT := (yJ7_fill_53178, cJ7_fill_53178, 4, none)
theorem okJ7_fill_53178 : MOK mJ7_fill_53178 2 := ⟨by decide, by decide, ⟨by decide, by decide⟩, by decide, List.mem_of_getElem? (i := 72) (by decide +kernel), (List.mem_of_getElem? (i := 5) (by decide +kernel))⟩

/-! METHODS AND LINKS, by program -/
def miX11_feed : fhMI := (yX11_feed, cX11_feed, 6, (some .int))
theorem mvX11_feed : fhMv miX11_feed 5 := ⟨⟨fhm (in_t (in_3 (List.mem_of_getElem? (i := 27) rfl))) rfl, fhm (in_t (in_1 (List.mem_of_getElem? (i := 1) rfl))) rfl, ⟨by decide +kernel, by decide +kernel⟩, by decide +kernel, by decide⟩, fhm (in_t (in_3 (List.mem_of_getElem? (i := 25) rfl))) rfl, fhm (in_t (in_3 (List.mem_of_getElem? (i := 26) rfl))) rfl⟩
def miX11_refuse : fhMI := (yX11_refuse, cX11_refuse, 2, (some .int))
theorem mvX11_refuse : fhMv miX11_refuse 1 := ⟨⟨fhm (in_t (in_3 (List.mem_of_getElem? (i := 31) rfl))) rfl, fhm (in_t (in_1 (List.mem_of_getElem? (i := 1) rfl))) rfl, ⟨by decide +kernel, by decide +kernel⟩, by decide +kernel, by decide⟩, fhm (in_t (in_3 (List.mem_of_getElem? (i := 30) rfl))) rfl, fhm (List.mem_append_left _ (List.mem_of_getElem? (i := 0) rfl)) rfl⟩
def miX2_get : fhMI := (yX2_get, cX2_get, 2, (some .int))
theorem mvX2_get : fhMv miX2_get 1 := ⟨⟨fhm (in_t (in_3 (List.mem_of_getElem? (i := 35) rfl))) rfl, fhm (in_t (in_1 (List.mem_of_getElem? (i := 2) rfl))) rfl, ⟨by decide +kernel, by decide +kernel⟩, by decide +kernel, by decide⟩, fhm (in_t (in_3 (List.mem_of_getElem? (i := 33) rfl))) rfl, fhm (in_t (in_3 (List.mem_of_getElem? (i := 34) rfl))) rfl⟩
def miX2_put : fhMI := (yX2_put, cX2_put, 3, none)
theorem mvX2_put : fhMv miX2_put 2 := ⟨⟨fhm (in_t (in_3 (List.mem_of_getElem? (i := 39) rfl))) rfl, fhm (in_t (in_1 (List.mem_of_getElem? (i := 2) rfl))) rfl, ⟨by decide +kernel, by decide +kernel⟩, by decide +kernel, by decide⟩, fhm (in_t (in_3 (List.mem_of_getElem? (i := 37) rfl))) rfl, fhm (in_t (in_3 (List.mem_of_getElem? (i := 38) rfl))) rfl⟩
def miX11_putFour : fhMI := (yX11_putFour, cX11_putFour, 3, none)
theorem mvX11_putFour : fhMv miX11_putFour 1 := ⟨⟨fhm (in_t (in_3 (List.mem_of_getElem? (i := 43) rfl))) rfl, fhm (in_t (in_1 (List.mem_of_getElem? (i := 1) rfl))) rfl, ⟨by decide +kernel, by decide +kernel⟩, by decide +kernel, by decide⟩, fhm (in_t (in_3 (List.mem_of_getElem? (i := 42) rfl))) rfl, fhm (List.mem_append_left _ (List.mem_of_getElem? (i := 1) rfl)) rfl⟩
def miX11_end : fhMI := (yX11_end, cX11_end, 2, (some .boolean))
theorem mvX11_end : fhMv miX11_end 1 := ⟨⟨fhm (in_t (in_3 (List.mem_of_getElem? (i := 47) rfl))) rfl, fhm (in_t (in_1 (List.mem_of_getElem? (i := 1) rfl))) rfl, ⟨by decide +kernel, by decide +kernel⟩, by decide +kernel, by decide⟩, fhm (in_t (in_3 (List.mem_of_getElem? (i := 45) rfl))) rfl, fhm (in_t (in_3 (List.mem_of_getElem? (i := 46) rfl))) rfl⟩
def miX11_parlour : fhMI := (yX11_parlour, cX11_parlour, 2, (some .int))
theorem mvX11_parlour : fhMv miX11_parlour 0 := ⟨⟨fhm (in_t (in_3 (List.mem_of_getElem? (i := 51) rfl))) rfl, fhm (in_t (in_1 (List.mem_of_getElem? (i := 1) rfl))) rfl, ⟨by decide +kernel, by decide +kernel⟩, by decide +kernel, by decide⟩, fhm (in_t (in_3 (List.mem_of_getElem? (i := 49) rfl))) rfl, fhm (in_t (in_3 (List.mem_of_getElem? (i := 50) rfl))) rfl⟩
def miX11_takeTape : fhMI := (yX11_takeTape, cX11_takeTape, 2, (some .int))
theorem mvX11_takeTape : fhMv miX11_takeTape 0 := ⟨⟨fhm (in_t (in_3 (List.mem_of_getElem? (i := 55) rfl))) rfl, fhm (in_t (in_1 (List.mem_of_getElem? (i := 1) rfl))) rfl, ⟨by decide +kernel, by decide +kernel⟩, by decide +kernel, by decide⟩, fhm (in_t (in_3 (List.mem_of_getElem? (i := 54) rfl))) rfl, fhm (List.mem_append_left _ (List.mem_of_getElem? (i := 2) rfl)) rfl⟩
def miX7_open : fhMI := (yX7_open, cX7_open, 3, none)
theorem mvX7_open : fhMv miX7_open 2 := ⟨⟨fhm (in_t (in_3 (List.mem_of_getElem? (i := 59) rfl))) rfl, fhm (in_t (in_1 (List.mem_of_getElem? (i := 8) rfl))) rfl, ⟨by decide +kernel, by decide +kernel⟩, by decide +kernel, by decide⟩, fhm (in_t (in_3 (List.mem_of_getElem? (i := 57) rfl))) rfl, fhm (in_t (in_3 (List.mem_of_getElem? (i := 58) rfl))) rfl⟩
def miX7_forget : fhMI := (yX7_forget, cX7_forget, 1, none)
theorem mvX7_forget : fhMv miX7_forget 0 := ⟨⟨fhm (in_t (in_3 (List.mem_of_getElem? (i := 63) rfl))) rfl, fhm (in_t (in_1 (List.mem_of_getElem? (i := 8) rfl))) rfl, ⟨by decide +kernel, by decide +kernel⟩, by decide +kernel, by decide⟩, fhm (in_t (in_3 (List.mem_of_getElem? (i := 62) rfl))) rfl, fhm (List.mem_append_left _ (List.mem_of_getElem? (i := 3) rfl)) rfl⟩
def miX2_wipe : fhMI := (yX2_wipe, cX2_wipe, 2, none)
theorem mvX2_wipe : fhMv miX2_wipe 0 := ⟨⟨fhm (in_t (in_3 (List.mem_of_getElem? (i := 67) rfl))) rfl, fhm (in_t (in_1 (List.mem_of_getElem? (i := 2) rfl))) rfl, ⟨by decide +kernel, by decide +kernel⟩, by decide +kernel, by decide⟩, fhm (in_t (in_3 (List.mem_of_getElem? (i := 65) rfl))) rfl, fhm (in_t (in_3 (List.mem_of_getElem? (i := 66) rfl))) rfl⟩
def miX8_open : fhMI := (yX8_open, cX8_open, 6, none)
theorem mvX8_open : fhMv miX8_open 2 := ⟨⟨fhm (in_t (in_3 (List.mem_of_getElem? (i := 71) rfl))) rfl, fhm (in_t (in_1 (List.mem_of_getElem? (i := 4) rfl))) rfl, ⟨by decide +kernel, by decide +kernel⟩, by decide +kernel, by decide⟩, fhm (in_t (in_3 (List.mem_of_getElem? (i := 69) rfl))) rfl, fhm (in_t (in_3 (List.mem_of_getElem? (i := 70) rfl))) rfl⟩
def miX8_cutPiece : fhMI := (yX8_cutPiece, cX8_cutPiece, 9, (some .int))
theorem mvX8_cutPiece : fhMv miX8_cutPiece 2 := ⟨⟨fhm (in_t (in_3 (List.mem_of_getElem? (i := 76) rfl))) rfl, fhm (in_t (in_1 (List.mem_of_getElem? (i := 4) rfl))) rfl, ⟨by decide +kernel, by decide +kernel⟩, by decide +kernel, by decide⟩, fhm (in_t (in_3 (List.mem_of_getElem? (i := 75) rfl))) rfl, fhm (List.mem_append_left _ (List.mem_of_getElem? (i := 4) rfl)) rfl⟩
def miX8_sortOf : fhMI := (yX8_sortOf, cX8_sortOf, 1, (some .int))
theorem msX8_sortOf : fhMs miX8_sortOf 1 := ⟨⟨fhm (in_t (in_3 (List.mem_of_getElem? (i := 79) rfl))) rfl, fhm (in_t (in_1 (List.mem_of_getElem? (i := 4) rfl))) rfl, ⟨by decide +kernel, by decide +kernel⟩, by decide +kernel, by decide⟩, fhm (in_t (in_3 (List.mem_of_getElem? (i := 78) rfl))) rfl⟩
def miX8_packLetters : fhMI := (yX8_packLetters, cX8_packLetters, 5, (some .int))
theorem msX8_packLetters : fhMs miX8_packLetters 3 := ⟨⟨fhm (in_t (in_3 (List.mem_of_getElem? (i := 82) rfl))) rfl, fhm (in_t (in_1 (List.mem_of_getElem? (i := 4) rfl))) rfl, ⟨by decide +kernel, by decide +kernel⟩, by decide +kernel, by decide⟩, fhm (in_t (in_3 (List.mem_of_getElem? (i := 81) rfl))) rfl⟩
def miX8_numberOf : fhMI := (yX8_numberOf, cX8_numberOf, 5, (some .int))
theorem msX8_numberOf : fhMs miX8_numberOf 3 := ⟨⟨fhm (in_t (in_3 (List.mem_of_getElem? (i := 86) rfl))) rfl, fhm (in_t (in_1 (List.mem_of_getElem? (i := 4) rfl))) rfl, ⟨by decide +kernel, by decide +kernel⟩, by decide +kernel, by decide⟩, fhm (in_t (in_3 (List.mem_of_getElem? (i := 85) rfl))) rfl⟩
def miX8_wordNumber : fhMI := (yX8_wordNumber, cX8_wordNumber, 6, (some .int))
theorem msX8_wordNumber : fhMs miX8_wordNumber 1 := ⟨⟨fhm (in_t (in_3 (List.mem_of_getElem? (i := 89) rfl))) rfl, fhm (in_t (in_1 (List.mem_of_getElem? (i := 4) rfl))) rfl, ⟨by decide +kernel, by decide +kernel⟩, by decide +kernel, by decide⟩, fhm (in_t (in_3 (List.mem_of_getElem? (i := 88) rfl))) rfl⟩
def miX8_advance : fhMI := (yX8_advance, cX8_advance, 2, none)
theorem mvX8_advance : fhMv miX8_advance 0 := ⟨⟨fhm (in_t (in_3 (List.mem_of_getElem? (i := 142) rfl))) rfl, fhm (in_t (in_1 (List.mem_of_getElem? (i := 4) rfl))) rfl, ⟨by decide +kernel, by decide +kernel⟩, by decide +kernel, by decide⟩, fhm (in_t (in_3 (List.mem_of_getElem? (i := 140) rfl))) rfl, fhm (in_t (in_3 (List.mem_of_getElem? (i := 141) rfl))) rfl⟩
def miX8_isGoingOn : fhMI := (yX8_isGoingOn, cX8_isGoingOn, 1, (some .boolean))
theorem mvX8_isGoingOn : fhMv miX8_isGoingOn 0 := ⟨⟨fhm (in_t (in_3 (List.mem_of_getElem? (i := 146) rfl))) rfl, fhm (in_t (in_1 (List.mem_of_getElem? (i := 4) rfl))) rfl, ⟨by decide +kernel, by decide +kernel⟩, by decide +kernel, by decide⟩, fhm (in_t (in_3 (List.mem_of_getElem? (i := 144) rfl))) rfl, fhm (in_t (in_3 (List.mem_of_getElem? (i := 145) rfl))) rfl⟩
def miX7_readStatement : fhMI := (yX7_readStatement, cX7_readStatement, 3, none)
theorem mvX7_readStatement : fhMv miX7_readStatement 0 := ⟨⟨fhm (in_t (in_3 (List.mem_of_getElem? (i := 150) rfl))) rfl, fhm (in_t (in_1 (List.mem_of_getElem? (i := 8) rfl))) rfl, ⟨by decide +kernel, by decide +kernel⟩, by decide +kernel, by decide⟩, fhm (in_t (in_3 (List.mem_of_getElem? (i := 148) rfl))) rfl, fhm (in_t (in_3 (List.mem_of_getElem? (i := 149) rfl))) rfl⟩
def miX7_statementWord : fhMI := (yX7_statementWord, cX7_statementWord, 5, (some .int))
theorem mvX7_statementWord : fhMv miX7_statementWord 0 := ⟨⟨fhm (in_t (in_3 (List.mem_of_getElem? (i := 154) rfl))) rfl, fhm (in_t (in_1 (List.mem_of_getElem? (i := 8) rfl))) rfl, ⟨by decide +kernel, by decide +kernel⟩, by decide +kernel, by decide⟩, fhm (in_t (in_3 (List.mem_of_getElem? (i := 153) rfl))) rfl, fhm (List.mem_append_left _ (List.mem_of_getElem? (i := 5) rfl)) rfl⟩
def miX8_wordHere : fhMI := (yX8_wordHere, cX8_wordHere, 1, (some .int))
theorem mvX8_wordHere : fhMv miX8_wordHere 0 := ⟨⟨fhm (in_t (in_3 (List.mem_of_getElem? (i := 158) rfl))) rfl, fhm (in_t (in_1 (List.mem_of_getElem? (i := 4) rfl))) rfl, ⟨by decide +kernel, by decide +kernel⟩, by decide +kernel, by decide⟩, fhm (in_t (in_3 (List.mem_of_getElem? (i := 156) rfl))) rfl, fhm (in_t (in_3 (List.mem_of_getElem? (i := 157) rfl))) rfl⟩
def miX8_fail : fhMI := (yX8_fail, cX8_fail, 3, none)
theorem mvX8_fail : fhMv miX8_fail 2 := ⟨⟨fhm (in_t (in_3 (List.mem_of_getElem? (i := 162) rfl))) rfl, fhm (in_t (in_1 (List.mem_of_getElem? (i := 4) rfl))) rfl, ⟨by decide +kernel, by decide +kernel⟩, by decide +kernel, by decide⟩, fhm (in_t (in_3 (List.mem_of_getElem? (i := 160) rfl))) rfl, fhm (in_t (in_3 (List.mem_of_getElem? (i := 161) rfl))) rfl⟩
def miX8_failHere : fhMI := (yX8_failHere, cX8_failHere, 1, none)
theorem mvX8_failHere : fhMv miX8_failHere 0 := ⟨⟨fhm (in_t (in_3 (List.mem_of_getElem? (i := 166) rfl))) rfl, fhm (in_t (in_1 (List.mem_of_getElem? (i := 4) rfl))) rfl, ⟨by decide +kernel, by decide +kernel⟩, by decide +kernel, by decide⟩, fhm (in_t (in_3 (List.mem_of_getElem? (i := 164) rfl))) rfl, fhm (in_t (in_3 (List.mem_of_getElem? (i := 165) rfl))) rfl⟩
def miX8_takeNumberWithin : fhMI := (yX8_takeNumberWithin, cX8_takeNumberWithin, 5, (some .int))
theorem mvX8_takeNumberWithin : fhMv miX8_takeNumberWithin 2 := ⟨⟨fhm (in_t (in_3 (List.mem_of_getElem? (i := 172) rfl))) rfl, fhm (in_t (in_1 (List.mem_of_getElem? (i := 4) rfl))) rfl, ⟨by decide +kernel, by decide +kernel⟩, by decide +kernel, by decide⟩, fhm (in_t (in_3 (List.mem_of_getElem? (i := 170) rfl))) rfl, fhm (in_t (in_3 (List.mem_of_getElem? (i := 171) rfl))) rfl⟩
def miX8_takeNumber : fhMI := (yX8_takeNumber, cX8_takeNumber, 2, (some .int))
theorem mvX8_takeNumber : fhMv miX8_takeNumber 0 := ⟨⟨fhm (in_t (in_3 (List.mem_of_getElem? (i := 176) rfl))) rfl, fhm (in_t (in_1 (List.mem_of_getElem? (i := 4) rfl))) rfl, ⟨by decide +kernel, by decide +kernel⟩, by decide +kernel, by decide⟩, fhm (in_t (in_3 (List.mem_of_getElem? (i := 174) rfl))) rfl, fhm (in_t (in_3 (List.mem_of_getElem? (i := 175) rfl))) rfl⟩
def miX7_readGuest : fhMI := (yX7_readGuest, cX7_readGuest, 4, none)
theorem mvX7_readGuest : fhMv miX7_readGuest 0 := ⟨⟨fhm (in_t (in_3 (List.mem_of_getElem? (i := 181) rfl))) rfl, fhm (in_t (in_1 (List.mem_of_getElem? (i := 8) rfl))) rfl, ⟨by decide +kernel, by decide +kernel⟩, by decide +kernel, by decide⟩, fhm (in_t (in_3 (List.mem_of_getElem? (i := 180) rfl))) rfl, fhm (List.mem_append_left _ (List.mem_of_getElem? (i := 6) rfl)) rfl⟩
def miX8_takeName : fhMI := (yX8_takeName, cX8_takeName, 2, (some .int))
theorem mvX8_takeName : fhMv miX8_takeName 0 := ⟨⟨fhm (in_t (in_3 (List.mem_of_getElem? (i := 185) rfl))) rfl, fhm (in_t (in_1 (List.mem_of_getElem? (i := 4) rfl))) rfl, ⟨by decide +kernel, by decide +kernel⟩, by decide +kernel, by decide⟩, fhm (in_t (in_3 (List.mem_of_getElem? (i := 183) rfl))) rfl, fhm (in_t (in_3 (List.mem_of_getElem? (i := 184) rfl))) rfl⟩
def miX7_guestNamed : fhMI := (yX7_guestNamed, cX7_guestNamed, 3, (some .int))
theorem mvX7_guestNamed : fhMv miX7_guestNamed 1 := ⟨⟨fhm (in_t (in_3 (List.mem_of_getElem? (i := 189) rfl))) rfl, fhm (in_t (in_1 (List.mem_of_getElem? (i := 8) rfl))) rfl, ⟨by decide +kernel, by decide +kernel⟩, by decide +kernel, by decide⟩, fhm (in_t (in_3 (List.mem_of_getElem? (i := 187) rfl))) rfl, fhm (in_t (in_3 (List.mem_of_getElem? (i := 188) rfl))) rfl⟩
def miX8_takeWord : fhMI := (yX8_takeWord, cX8_takeWord, 2, none)
theorem mvX8_takeWord : fhMv miX8_takeWord 1 := ⟨⟨fhm (in_t (in_3 (List.mem_of_getElem? (i := 194) rfl))) rfl, fhm (in_t (in_1 (List.mem_of_getElem? (i := 4) rfl))) rfl, ⟨by decide +kernel, by decide +kernel⟩, by decide +kernel, by decide⟩, fhm (in_t (in_3 (List.mem_of_getElem? (i := 192) rfl))) rfl, fhm (in_t (in_3 (List.mem_of_getElem? (i := 193) rfl))) rfl⟩
def miX8_isWord : fhMI := (yX8_isWord, cX8_isWord, 2, (some .boolean))
theorem mvX8_isWord : fhMv miX8_isWord 1 := ⟨⟨fhm (in_t (in_3 (List.mem_of_getElem? (i := 198) rfl))) rfl, fhm (in_t (in_1 (List.mem_of_getElem? (i := 4) rfl))) rfl, ⟨by decide +kernel, by decide +kernel⟩, by decide +kernel, by decide⟩, fhm (in_t (in_3 (List.mem_of_getElem? (i := 196) rfl))) rfl, fhm (in_t (in_3 (List.mem_of_getElem? (i := 197) rfl))) rfl⟩
def miX7_readBlind : fhMI := (yX7_readBlind, cX7_readBlind, 4, none)
theorem mvX7_readBlind : fhMv miX7_readBlind 0 := ⟨⟨fhm (in_t (in_3 (List.mem_of_getElem? (i := 203) rfl))) rfl, fhm (in_t (in_1 (List.mem_of_getElem? (i := 8) rfl))) rfl, ⟨by decide +kernel, by decide +kernel⟩, by decide +kernel, by decide⟩, fhm (in_t (in_3 (List.mem_of_getElem? (i := 202) rfl))) rfl, fhm (List.mem_append_left _ (List.mem_of_getElem? (i := 7) rfl)) rfl⟩
def miX5_readTest : fhMI := (yX5_readTest, cX5_readTest, 3, none)
theorem mvX5_readTest : fhMv miX5_readTest 2 := ⟨⟨fhm (in_t (in_3 (List.mem_of_getElem? (i := 207) rfl))) rfl, fhm (in_t (in_1 (List.mem_of_getElem? (i := 6) rfl))) rfl, ⟨by decide +kernel, by decide +kernel⟩, by decide +kernel, by decide⟩, fhm (in_t (in_3 (List.mem_of_getElem? (i := 205) rfl))) rfl, fhm (in_t (in_3 (List.mem_of_getElem? (i := 206) rfl))) rfl⟩
def miX5_begin : fhMI := (yX5_begin, cX5_begin, 4, none)
theorem mvX5_begin : fhMv miX5_begin 3 := ⟨⟨fhm (in_t (in_3 (List.mem_of_getElem? (i := 211) rfl))) rfl, fhm (in_t (in_1 (List.mem_of_getElem? (i := 6) rfl))) rfl, ⟨by decide +kernel, by decide +kernel⟩, by decide +kernel, by decide⟩, fhm (in_t (in_3 (List.mem_of_getElem? (i := 210) rfl))) rfl, fhm (List.mem_append_left _ (List.mem_of_getElem? (i := 8) rfl)) rfl⟩
def miX5_test : fhMI := (yX5_test, cX5_test, 2, none)
theorem mvX5_test : fhMv miX5_test 0 := ⟨⟨fhm (in_t (in_3 (List.mem_of_getElem? (i := 215) rfl))) rfl, fhm (in_t (in_1 (List.mem_of_getElem? (i := 6) rfl))) rfl, ⟨by decide +kernel, by decide +kernel⟩, by decide +kernel, by decide⟩, fhm (in_t (in_3 (List.mem_of_getElem? (i := 214) rfl))) rfl, fhm (List.mem_append_left _ (List.mem_of_getElem? (i := 9) rfl)) rfl⟩
def miX5_both : fhMI := (yX5_both, cX5_both, 2, none)
theorem mvX5_both : fhMv miX5_both 0 := ⟨⟨fhm (in_t (in_3 (List.mem_of_getElem? (i := 219) rfl))) rfl, fhm (in_t (in_1 (List.mem_of_getElem? (i := 6) rfl))) rfl, ⟨by decide +kernel, by decide +kernel⟩, by decide +kernel, by decide⟩, fhm (in_t (in_3 (List.mem_of_getElem? (i := 218) rfl))) rfl, fhm (List.mem_append_left _ (List.mem_of_getElem? (i := 10) rfl)) rfl⟩
def miX5_claim : fhMI := (yX5_claim, cX5_claim, 2, none)
theorem mvX5_claim : fhMv miX5_claim 0 := ⟨⟨fhm (in_t (in_3 (List.mem_of_getElem? (i := 223) rfl))) rfl, fhm (in_t (in_1 (List.mem_of_getElem? (i := 6) rfl))) rfl, ⟨by decide +kernel, by decide +kernel⟩, by decide +kernel, by decide⟩, fhm (in_t (in_3 (List.mem_of_getElem? (i := 222) rfl))) rfl, fhm (List.mem_append_left _ (List.mem_of_getElem? (i := 11) rfl)) rfl⟩
def miX8_isSign : fhMI := (yX8_isSign, cX8_isSign, 2, (some .boolean))
theorem mvX8_isSign : fhMv miX8_isSign 1 := ⟨⟨fhm (in_t (in_3 (List.mem_of_getElem? (i := 227) rfl))) rfl, fhm (in_t (in_1 (List.mem_of_getElem? (i := 4) rfl))) rfl, ⟨by decide +kernel, by decide +kernel⟩, by decide +kernel, by decide⟩, fhm (in_t (in_3 (List.mem_of_getElem? (i := 225) rfl))) rfl, fhm (in_t (in_3 (List.mem_of_getElem? (i := 226) rfl))) rfl⟩
def miX5_goDeeper : fhMI := (yX5_goDeeper, cX5_goDeeper, 1, (some .boolean))
theorem mvX5_goDeeper : fhMv miX5_goDeeper 0 := ⟨⟨fhm (in_t (in_3 (List.mem_of_getElem? (i := 231) rfl))) rfl, fhm (in_t (in_1 (List.mem_of_getElem? (i := 6) rfl))) rfl, ⟨by decide +kernel, by decide +kernel⟩, by decide +kernel, by decide⟩, fhm (in_t (in_3 (List.mem_of_getElem? (i := 230) rfl))) rfl, fhm (List.mem_append_left _ (List.mem_of_getElem? (i := 12) rfl)) rfl⟩
def miX8_takeSign : fhMI := (yX8_takeSign, cX8_takeSign, 2, none)
theorem mvX8_takeSign : fhMv miX8_takeSign 1 := ⟨⟨fhm (in_t (in_3 (List.mem_of_getElem? (i := 237) rfl))) rfl, fhm (in_t (in_1 (List.mem_of_getElem? (i := 4) rfl))) rfl, ⟨by decide +kernel, by decide +kernel⟩, by decide +kernel, by decide⟩, fhm (in_t (in_3 (List.mem_of_getElem? (i := 235) rfl))) rfl, fhm (in_t (in_3 (List.mem_of_getElem? (i := 236) rfl))) rfl⟩
def miX3_add : fhMI := (yX3_add, cX3_add, 3, none)
theorem mvX3_add : fhMv miX3_add 2 := ⟨⟨fhm (in_t (in_4 (List.mem_of_getElem? (i := 3) rfl))) rfl, fhm (in_t (in_1 (List.mem_of_getElem? (i := 5) rfl))) rfl, ⟨by decide +kernel, by decide +kernel⟩, by decide +kernel, by decide⟩, fhm (in_t (in_4 (List.mem_of_getElem? (i := 1) rfl))) rfl, fhm (in_t (in_4 (List.mem_of_getElem? (i := 2) rfl))) rfl⟩
def miX5_sum : fhMI := (yX5_sum, cX5_sum, 3, none)
theorem mvX5_sum : fhMv miX5_sum 0 := ⟨⟨fhm (in_t (in_4 (List.mem_of_getElem? (i := 11) rfl))) rfl, fhm (in_t (in_1 (List.mem_of_getElem? (i := 6) rfl))) rfl, ⟨by decide +kernel, by decide +kernel⟩, by decide +kernel, by decide⟩, fhm (in_t (in_4 (List.mem_of_getElem? (i := 10) rfl))) rfl, fhm (List.mem_append_left _ (List.mem_of_getElem? (i := 13) rfl)) rfl⟩
def miX5_product : fhMI := (yX5_product, cX5_product, 3, none)
theorem mvX5_product : fhMv miX5_product 0 := ⟨⟨fhm (in_t (in_4 (List.mem_of_getElem? (i := 15) rfl))) rfl, fhm (in_t (in_1 (List.mem_of_getElem? (i := 6) rfl))) rfl, ⟨by decide +kernel, by decide +kernel⟩, by decide +kernel, by decide⟩, fhm (in_t (in_4 (List.mem_of_getElem? (i := 14) rfl))) rfl, fhm (List.mem_append_left _ (List.mem_of_getElem? (i := 14) rfl)) rfl⟩
def miX5_part : fhMI := (yX5_part, cX5_part, 1, none)
theorem mvX5_part : fhMv miX5_part 0 := ⟨⟨fhm (in_t (in_4 (List.mem_of_getElem? (i := 19) rfl))) rfl, fhm (in_t (in_1 (List.mem_of_getElem? (i := 6) rfl))) rfl, ⟨by decide +kernel, by decide +kernel⟩, by decide +kernel, by decide⟩, fhm (in_t (in_4 (List.mem_of_getElem? (i := 18) rfl))) rfl, fhm (List.mem_append_left _ (List.mem_of_getElem? (i := 15) rfl)) rfl⟩
def miX8_isNumber : fhMI := (yX8_isNumber, cX8_isNumber, 1, (some .boolean))
theorem mvX8_isNumber : fhMv miX8_isNumber 0 := ⟨⟨fhm (in_t (in_4 (List.mem_of_getElem? (i := 23) rfl))) rfl, fhm (in_t (in_1 (List.mem_of_getElem? (i := 4) rfl))) rfl, ⟨by decide +kernel, by decide +kernel⟩, by decide +kernel, by decide⟩, fhm (in_t (in_4 (List.mem_of_getElem? (i := 21) rfl))) rfl, fhm (in_t (in_4 (List.mem_of_getElem? (i := 22) rfl))) rfl⟩
def miX5_pair : fhMI := (yX5_pair, cX5_pair, 2, none)
theorem mvX5_pair : fhMv miX5_pair 1 := ⟨⟨fhm (in_t (in_4 (List.mem_of_getElem? (i := 28) rfl))) rfl, fhm (in_t (in_1 (List.mem_of_getElem? (i := 6) rfl))) rfl, ⟨by decide +kernel, by decide +kernel⟩, by decide +kernel, by decide⟩, fhm (in_t (in_4 (List.mem_of_getElem? (i := 27) rfl))) rfl, fhm (List.mem_append_left _ (List.mem_of_getElem? (i := 16) rfl)) rfl⟩
def miX5_isLookingWord : fhMI := (yX5_isLookingWord, cX5_isLookingWord, 1, (some .boolean))
theorem mvX5_isLookingWord : fhMv miX5_isLookingWord 0 := ⟨⟨fhm (in_t (in_4 (List.mem_of_getElem? (i := 33) rfl))) rfl, fhm (in_t (in_1 (List.mem_of_getElem? (i := 6) rfl))) rfl, ⟨by decide +kernel, by decide +kernel⟩, by decide +kernel, by decide⟩, fhm (in_t (in_4 (List.mem_of_getElem? (i := 32) rfl))) rfl, fhm (List.mem_append_left _ (List.mem_of_getElem? (i := 17) rfl)) rfl⟩
def miX5_lookup : fhMI := (yX5_lookup, cX5_lookup, 2, none)
theorem mvX5_lookup : fhMv miX5_lookup 0 := ⟨⟨fhm (in_t (in_4 (List.mem_of_getElem? (i := 37) rfl))) rfl, fhm (in_t (in_1 (List.mem_of_getElem? (i := 6) rfl))) rfl, ⟨by decide +kernel, by decide +kernel⟩, by decide +kernel, by decide⟩, fhm (in_t (in_4 (List.mem_of_getElem? (i := 36) rfl))) rfl, fhm (List.mem_append_left _ (List.mem_of_getElem? (i := 18) rfl)) rfl⟩
def miX5_leaf : fhMI := (yX5_leaf, cX5_leaf, 3, none)
theorem mvX5_leaf : fhMv miX5_leaf 0 := ⟨⟨fhm (in_t (in_4 (List.mem_of_getElem? (i := 41) rfl))) rfl, fhm (in_t (in_1 (List.mem_of_getElem? (i := 6) rfl))) rfl, ⟨by decide +kernel, by decide +kernel⟩, by decide +kernel, by decide⟩, fhm (in_t (in_4 (List.mem_of_getElem? (i := 40) rfl))) rfl, fhm (List.mem_append_left _ (List.mem_of_getElem? (i := 19) rfl)) rfl⟩
def miX8_lettersHere : fhMI := (yX8_lettersHere, cX8_lettersHere, 1, (some .int))
theorem mvX8_lettersHere : fhMv miX8_lettersHere 0 := ⟨⟨fhm (in_t (in_4 (List.mem_of_getElem? (i := 46) rfl))) rfl, fhm (in_t (in_1 (List.mem_of_getElem? (i := 4) rfl))) rfl, ⟨by decide +kernel, by decide +kernel⟩, by decide +kernel, by decide⟩, fhm (in_t (in_4 (List.mem_of_getElem? (i := 44) rfl))) rfl, fhm (in_t (in_4 (List.mem_of_getElem? (i := 45) rfl))) rfl⟩
def miX5_signHere : fhMI := (yX5_signHere, cX5_signHere, 1, (some .int))
theorem mvX5_signHere : fhMv miX5_signHere 0 := ⟨⟨fhm (in_t (in_4 (List.mem_of_getElem? (i := 51) rfl))) rfl, fhm (in_t (in_1 (List.mem_of_getElem? (i := 6) rfl))) rfl, ⟨by decide +kernel, by decide +kernel⟩, by decide +kernel, by decide⟩, fhm (in_t (in_4 (List.mem_of_getElem? (i := 50) rfl))) rfl, fhm (List.mem_append_left _ (List.mem_of_getElem? (i := 20) rfl)) rfl⟩
def miX7_noteTest : fhMI := (yX7_noteTest, cX7_noteTest, 3, none)
theorem mvX7_noteTest : fhMv miX7_noteTest 2 := ⟨⟨fhm (in_t (in_4 (List.mem_of_getElem? (i := 55) rfl))) rfl, fhm (in_t (in_1 (List.mem_of_getElem? (i := 8) rfl))) rfl, ⟨by decide +kernel, by decide +kernel⟩, by decide +kernel, by decide⟩, fhm (in_t (in_4 (List.mem_of_getElem? (i := 54) rfl))) rfl, fhm (List.mem_append_left _ (List.mem_of_getElem? (i := 21) rfl)) rfl⟩
def miX7_close : fhMI := (yX7_close, cX7_close, 2, none)
theorem mvX7_close : fhMv miX7_close 1 := ⟨⟨fhm (in_t (in_4 (List.mem_of_getElem? (i := 60) rfl))) rfl, fhm (in_t (in_1 (List.mem_of_getElem? (i := 8) rfl))) rfl, ⟨by decide +kernel, by decide +kernel⟩, by decide +kernel, by decide⟩, fhm (in_t (in_4 (List.mem_of_getElem? (i := 58) rfl))) rfl, fhm (in_t (in_4 (List.mem_of_getElem? (i := 59) rfl))) rfl⟩
def miX8_failAtEnd : fhMI := (yX8_failAtEnd, cX8_failAtEnd, 2, none)
theorem mvX8_failAtEnd : fhMv miX8_failAtEnd 1 := ⟨⟨fhm (in_t (in_4 (List.mem_of_getElem? (i := 64) rfl))) rfl, fhm (in_t (in_1 (List.mem_of_getElem? (i := 4) rfl))) rfl, ⟨by decide +kernel, by decide +kernel⟩, by decide +kernel, by decide⟩, fhm (in_t (in_4 (List.mem_of_getElem? (i := 62) rfl))) rfl, fhm (in_t (in_4 (List.mem_of_getElem? (i := 63) rfl))) rfl⟩
def miX10_fillFromRow : fhMI := (yX10_fillFromRow, cX10_fillFromRow, 10, none)
theorem mvX10_fillFromRow : fhMv miX10_fillFromRow 3 := ⟨⟨fhm (in_t (in_4 (List.mem_of_getElem? (i := 68) rfl))) rfl, fhm (in_t (in_1 (List.mem_of_getElem? (i := 7) rfl))) rfl, ⟨by decide +kernel, by decide +kernel⟩, by decide +kernel, by decide⟩, fhm (in_t (in_4 (List.mem_of_getElem? (i := 66) rfl))) rfl, fhm (in_t (in_4 (List.mem_of_getElem? (i := 67) rfl))) rfl⟩
def miX10_countKinds : fhMI := (yX10_countKinds, cX10_countKinds, 4, (some .int))
theorem mvX10_countKinds : fhMv miX10_countKinds 1 := ⟨⟨fhm (in_t (in_4 (List.mem_of_getElem? (i := 77) rfl))) rfl, fhm (in_t (in_1 (List.mem_of_getElem? (i := 7) rfl))) rfl, ⟨by decide +kernel, by decide +kernel⟩, by decide +kernel, by decide⟩, fhm (in_t (in_4 (List.mem_of_getElem? (i := 76) rfl))) rfl, fhm (List.mem_append_left _ (List.mem_of_getElem? (i := 22) rfl)) rfl⟩
def miX7_rulesHold : fhMI := (yX7_rulesHold, cX7_rulesHold, 3, (some .boolean))
theorem mvX7_rulesHold : fhMv miX7_rulesHold 1 := ⟨⟨fhm (in_t (in_4 (List.mem_of_getElem? (i := 81) rfl))) rfl, fhm (in_t (in_1 (List.mem_of_getElem? (i := 8) rfl))) rfl, ⟨by decide +kernel, by decide +kernel⟩, by decide +kernel, by decide⟩, fhm (in_t (in_4 (List.mem_of_getElem? (i := 79) rfl))) rfl, fhm (in_t (in_4 (List.mem_of_getElem? (i := 80) rfl))) rfl⟩
def miX10_value : fhMI := (yX10_value, cX10_value, 6, (some .int))
theorem mvX10_value : fhMv miX10_value 3 := ⟨⟨fhm (in_t (in_4 (List.mem_of_getElem? (i := 85) rfl))) rfl, fhm (in_t (in_1 (List.mem_of_getElem? (i := 7) rfl))) rfl, ⟨by decide +kernel, by decide +kernel⟩, by decide +kernel, by decide⟩, fhm (in_t (in_4 (List.mem_of_getElem? (i := 83) rfl))) rfl, fhm (in_t (in_4 (List.mem_of_getElem? (i := 84) rfl))) rfl⟩
def miX10_work : fhMI := (yX10_work, cX10_work, 6, none)
theorem mvX10_work : fhMv miX10_work 2 := ⟨⟨fhm (in_t (in_4 (List.mem_of_getElem? (i := 89) rfl))) rfl, fhm (in_t (in_1 (List.mem_of_getElem? (i := 7) rfl))) rfl, ⟨by decide +kernel, by decide +kernel⟩, by decide +kernel, by decide⟩, fhm (in_t (in_4 (List.mem_of_getElem? (i := 88) rfl))) rfl, fhm (List.mem_append_left _ (List.mem_of_getElem? (i := 23) rfl)) rfl⟩
def miX10_push : fhMI := (yX10_push, cX10_push, 2, none)
theorem mvX10_push : fhMv miX10_push 1 := ⟨⟨fhm (in_t (in_4 (List.mem_of_getElem? (i := 93) rfl))) rfl, fhm (in_t (in_1 (List.mem_of_getElem? (i := 7) rfl))) rfl, ⟨by decide +kernel, by decide +kernel⟩, by decide +kernel, by decide⟩, fhm (in_t (in_4 (List.mem_of_getElem? (i := 92) rfl))) rfl, fhm (List.mem_append_left _ (List.mem_of_getElem? (i := 24) rfl)) rfl⟩
def miX10_pop : fhMI := (yX10_pop, cX10_pop, 1, (some .int))
theorem mvX10_pop : fhMv miX10_pop 0 := ⟨⟨fhm (in_t (in_4 (List.mem_of_getElem? (i := 97) rfl))) rfl, fhm (in_t (in_1 (List.mem_of_getElem? (i := 7) rfl))) rfl, ⟨by decide +kernel, by decide +kernel⟩, by decide +kernel, by decide⟩, fhm (in_t (in_4 (List.mem_of_getElem? (i := 96) rfl))) rfl, fhm (List.mem_append_left _ (List.mem_of_getElem? (i := 25) rfl)) rfl⟩
def miX10_reckon : fhMI := (yX10_reckon, cX10_reckon, 3, (some .int))
theorem msX10_reckon : fhMs miX10_reckon 3 := ⟨⟨fhm (in_t (in_4 (List.mem_of_getElem? (i := 100) rfl))) rfl, fhm (in_t (in_1 (List.mem_of_getElem? (i := 7) rfl))) rfl, ⟨by decide +kernel, by decide +kernel⟩, by decide +kernel, by decide⟩, fhm (in_t (in_4 (List.mem_of_getElem? (i := 99) rfl))) rfl⟩
def miX10_hold : fhMI := (yX10_hold, cX10_hold, 2, (some .int))
theorem msX10_hold : fhMs miX10_hold 1 := ⟨⟨fhm (in_t (in_4 (List.mem_of_getElem? (i := 103) rfl))) rfl, fhm (in_t (in_1 (List.mem_of_getElem? (i := 7) rfl))) rfl, ⟨by decide +kernel, by decide +kernel⟩, by decide +kernel, by decide⟩, fhm (in_t (in_4 (List.mem_of_getElem? (i := 102) rfl))) rfl⟩
def miX10_judge : fhMI := (yX10_judge, cX10_judge, 4, (some .int))
theorem msX10_judge : fhMs miX10_judge 3 := ⟨⟨fhm (in_t (in_4 (List.mem_of_getElem? (i := 117) rfl))) rfl, fhm (in_t (in_1 (List.mem_of_getElem? (i := 7) rfl))) rfl, ⟨by decide +kernel, by decide +kernel⟩, by decide +kernel, by decide⟩, fhm (in_t (in_4 (List.mem_of_getElem? (i := 116) rfl))) rfl⟩
def miX11_noteFault : fhMI := (yX11_noteFault, cX11_noteFault, 1, none)
theorem mvX11_noteFault : fhMv miX11_noteFault 0 := ⟨⟨fhm (in_t (in_4 (List.mem_of_getElem? (i := 121) rfl))) rfl, fhm (in_t (in_1 (List.mem_of_getElem? (i := 1) rfl))) rfl, ⟨by decide +kernel, by decide +kernel⟩, by decide +kernel, by decide⟩, fhm (in_t (in_4 (List.mem_of_getElem? (i := 120) rfl))) rfl, fhm (List.mem_append_left _ (List.mem_of_getElem? (i := 26) rfl)) rfl⟩
def miX9_build : fhMI := (yX9_build, cX9_build, 4, none)
theorem mvX9_build : fhMv miX9_build 2 := ⟨⟨fhm (in_t (in_4 (List.mem_of_getElem? (i := 125) rfl))) rfl, fhm (in_t (in_1 (List.mem_of_getElem? (i := 9) rfl))) rfl, ⟨by decide +kernel, by decide +kernel⟩, by decide +kernel, by decide⟩, fhm (in_t (in_4 (List.mem_of_getElem? (i := 123) rfl))) rfl, fhm (in_t (in_4 (List.mem_of_getElem? (i := 124) rfl))) rfl⟩
def miX7_seenBy : fhMI := (yX7_seenBy, cX7_seenBy, 2, (some .int))
theorem mvX7_seenBy : fhMv miX7_seenBy 1 := ⟨⟨fhm (in_t (in_4 (List.mem_of_getElem? (i := 131) rfl))) rfl, fhm (in_t (in_1 (List.mem_of_getElem? (i := 8) rfl))) rfl, ⟨by decide +kernel, by decide +kernel⟩, by decide +kernel, by decide⟩, fhm (in_t (in_4 (List.mem_of_getElem? (i := 129) rfl))) rfl, fhm (in_t (in_4 (List.mem_of_getElem? (i := 130) rfl))) rfl⟩
def miX9_fillViews : fhMI := (yX9_fillViews, cX9_fillViews, 6, none)
theorem mvX9_fillViews : fhMv miX9_fillViews 1 := ⟨⟨fhm (in_t (in_4 (List.mem_of_getElem? (i := 137) rfl))) rfl, fhm (in_t (in_1 (List.mem_of_getElem? (i := 9) rfl))) rfl, ⟨by decide +kernel, by decide +kernel⟩, by decide +kernel, by decide⟩, fhm (in_t (in_4 (List.mem_of_getElem? (i := 136) rfl))) rfl, fhm (List.mem_append_left _ (List.mem_of_getElem? (i := 27) rfl)) rfl⟩
def miX9_markOf : fhMI := (yX9_markOf, cX9_markOf, 3, (some .int))
theorem mvX9_markOf : fhMv miX9_markOf 2 := ⟨⟨fhm (in_t (in_4 (List.mem_of_getElem? (i := 141) rfl))) rfl, fhm (in_t (in_1 (List.mem_of_getElem? (i := 9) rfl))) rfl, ⟨by decide +kernel, by decide +kernel⟩, by decide +kernel, by decide⟩, fhm (in_t (in_4 (List.mem_of_getElem? (i := 139) rfl))) rfl, fhm (in_t (in_4 (List.mem_of_getElem? (i := 140) rfl))) rfl⟩
def miX7_truthBits : fhMI := (yX7_truthBits, cX7_truthBits, 5, (some .int))
theorem mvX7_truthBits : fhMv miX7_truthBits 1 := ⟨⟨fhm (in_t (in_4 (List.mem_of_getElem? (i := 147) rfl))) rfl, fhm (in_t (in_1 (List.mem_of_getElem? (i := 8) rfl))) rfl, ⟨by decide +kernel, by decide +kernel⟩, by decide +kernel, by decide⟩, fhm (in_t (in_4 (List.mem_of_getElem? (i := 145) rfl))) rfl, fhm (in_t (in_4 (List.mem_of_getElem? (i := 146) rfl))) rfl⟩
def miX4_begin : fhMI := (yX4_begin, cX4_begin, 3, none)
theorem mvX4_begin : fhMv miX4_begin 1 := ⟨⟨fhm (in_t (in_4 (List.mem_of_getElem? (i := 151) rfl))) rfl, fhm (in_t (in_1 (List.mem_of_getElem? (i := 10) rfl))) rfl, ⟨by decide +kernel, by decide +kernel⟩, by decide +kernel, by decide⟩, fhm (in_t (in_4 (List.mem_of_getElem? (i := 149) rfl))) rfl, fhm (in_t (in_4 (List.mem_of_getElem? (i := 150) rfl))) rfl⟩
def miX4_settle : fhMI := (yX4_settle, cX4_settle, 1, none)
theorem mvX4_settle : fhMv miX4_settle 0 := ⟨⟨fhm (in_t (in_4 (List.mem_of_getElem? (i := 157) rfl))) rfl, fhm (in_t (in_1 (List.mem_of_getElem? (i := 10) rfl))) rfl, ⟨by decide +kernel, by decide +kernel⟩, by decide +kernel, by decide⟩, fhm (in_t (in_4 (List.mem_of_getElem? (i := 155) rfl))) rfl, fhm (in_t (in_4 (List.mem_of_getElem? (i := 156) rfl))) rfl⟩
def miX9_findKnowers : fhMI := (yX9_findKnowers, cX9_findKnowers, 8, none)
theorem mvX9_findKnowers : fhMv miX9_findKnowers 4 := ⟨⟨fhm (in_t (in_4 (List.mem_of_getElem? (i := 161) rfl))) rfl, fhm (in_t (in_1 (List.mem_of_getElem? (i := 9) rfl))) rfl, ⟨by decide +kernel, by decide +kernel⟩, by decide +kernel, by decide⟩, fhm (in_t (in_4 (List.mem_of_getElem? (i := 159) rfl))) rfl, fhm (in_t (in_4 (List.mem_of_getElem? (i := 160) rfl))) rfl⟩
def miX9_viewOf : fhMI := (yX9_viewOf, cX9_viewOf, 3, (some .int))
theorem mvX9_viewOf : fhMv miX9_viewOf 2 := ⟨⟨fhm (in_t (in_4 (List.mem_of_getElem? (i := 165) rfl))) rfl, fhm (in_t (in_1 (List.mem_of_getElem? (i := 9) rfl))) rfl, ⟨by decide +kernel, by decide +kernel⟩, by decide +kernel, by decide⟩, fhm (in_t (in_4 (List.mem_of_getElem? (i := 163) rfl))) rfl, fhm (in_t (in_4 (List.mem_of_getElem? (i := 164) rfl))) rfl⟩
def miX0_forget : fhMI := (yX0_forget, cX0_forget, 1, none)
theorem mvX0_forget : fhMv miX0_forget 0 := ⟨⟨fhm (in_t (in_4 (List.mem_of_getElem? (i := 175) rfl))) rfl, fhm (in_t (in_1 (List.mem_of_getElem? (i := 11) rfl))) rfl, ⟨by decide +kernel, by decide +kernel⟩, by decide +kernel, by decide⟩, fhm (in_t (in_4 (List.mem_of_getElem? (i := 173) rfl))) rfl, fhm (in_t (in_4 (List.mem_of_getElem? (i := 174) rfl))) rfl⟩
def miX1_forget : fhMI := (yX1_forget, cX1_forget, 1, none)
theorem mvX1_forget : fhMv miX1_forget 0 := ⟨⟨fhm (in_t (in_4 (List.mem_of_getElem? (i := 179) rfl))) rfl, fhm (in_t (in_1 (List.mem_of_getElem? (i := 12) rfl))) rfl, ⟨by decide +kernel, by decide +kernel⟩, by decide +kernel, by decide⟩, fhm (in_t (in_4 (List.mem_of_getElem? (i := 177) rfl))) rfl, fhm (in_t (in_4 (List.mem_of_getElem? (i := 178) rfl))) rfl⟩
def miX6_wipe : fhMI := (yX6_wipe, cX6_wipe, 1, none)
theorem mvX6_wipe : fhMv miX6_wipe 0 := ⟨⟨fhm (in_t (in_4 (List.mem_of_getElem? (i := 183) rfl))) rfl, fhm (in_t (in_1 (List.mem_of_getElem? (i := 13) rfl))) rfl, ⟨by decide +kernel, by decide +kernel⟩, by decide +kernel, by decide⟩, fhm (in_t (in_4 (List.mem_of_getElem? (i := 181) rfl))) rfl, fhm (in_t (in_4 (List.mem_of_getElem? (i := 182) rfl))) rfl⟩
def miX11_fault : fhMI := (yX11_fault, cX11_fault, 2, (some .int))
theorem mvX11_fault : fhMv miX11_fault 1 := ⟨⟨fhm (in_t (in_4 (List.mem_of_getElem? (i := 188) rfl))) rfl, fhm (in_t (in_1 (List.mem_of_getElem? (i := 1) rfl))) rfl, ⟨by decide +kernel, by decide +kernel⟩, by decide +kernel, by decide⟩, fhm (in_t (in_4 (List.mem_of_getElem? (i := 186) rfl))) rfl, fhm (in_t (in_4 (List.mem_of_getElem? (i := 187) rfl))) rfl⟩
def miX11_has : fhMI := (yX11_has, cX11_has, 2, (some .int))
theorem mvX11_has : fhMv miX11_has 1 := ⟨⟨fhm (in_t (in_4 (List.mem_of_getElem? (i := 192) rfl))) rfl, fhm (in_t (in_1 (List.mem_of_getElem? (i := 1) rfl))) rfl, ⟨by decide +kernel, by decide +kernel⟩, by decide +kernel, by decide⟩, fhm (in_t (in_4 (List.mem_of_getElem? (i := 190) rfl))) rfl, fhm (in_t (in_4 (List.mem_of_getElem? (i := 191) rfl))) rfl⟩
def miX4_knowers : fhMI := (yX4_knowers, cX4_knowers, 1, (some .int))
theorem mvX4_knowers : fhMv miX4_knowers 0 := ⟨⟨fhm (in_t (in_4 (List.mem_of_getElem? (i := 196) rfl))) rfl, fhm (in_t (in_1 (List.mem_of_getElem? (i := 10) rfl))) rfl, ⟨by decide +kernel, by decide +kernel⟩, by decide +kernel, by decide⟩, fhm (in_t (in_4 (List.mem_of_getElem? (i := 194) rfl))) rfl, fhm (in_t (in_4 (List.mem_of_getElem? (i := 195) rfl))) rfl⟩
def miX6_toldCount : fhMI := (yX6_toldCount, cX6_toldCount, 1, (some .int))
theorem mvX6_toldCount : fhMv miX6_toldCount 0 := ⟨⟨fhm (in_t (in_4 (List.mem_of_getElem? (i := 201) rfl))) rfl, fhm (in_t (in_1 (List.mem_of_getElem? (i := 13) rfl))) rfl, ⟨by decide +kernel, by decide +kernel⟩, by decide +kernel, by decide⟩, fhm (in_t (in_4 (List.mem_of_getElem? (i := 199) rfl))) rfl, fhm (in_t (in_4 (List.mem_of_getElem? (i := 200) rfl))) rfl⟩
def miX11_letter : fhMI := (yX11_letter, cX11_letter, 3, (some .int))
theorem mvX11_letter : fhMv miX11_letter 2 := ⟨⟨fhm (in_t (in_4 (List.mem_of_getElem? (i := 206) rfl))) rfl, fhm (in_t (in_1 (List.mem_of_getElem? (i := 1) rfl))) rfl, ⟨by decide +kernel, by decide +kernel⟩, by decide +kernel, by decide⟩, fhm (in_t (in_4 (List.mem_of_getElem? (i := 204) rfl))) rfl, fhm (in_t (in_4 (List.mem_of_getElem? (i := 205) rfl))) rfl⟩
def miX11_isGuest : fhMI := (yX11_isGuest, cX11_isGuest, 2, (some .boolean))
theorem mvX11_isGuest : fhMv miX11_isGuest 1 := ⟨⟨fhm (in_t (in_4 (List.mem_of_getElem? (i := 210) rfl))) rfl, fhm (in_t (in_1 (List.mem_of_getElem? (i := 1) rfl))) rfl, ⟨by decide +kernel, by decide +kernel⟩, by decide +kernel, by decide⟩, fhm (in_t (in_4 (List.mem_of_getElem? (i := 209) rfl))) rfl, fhm (List.mem_append_left _ (List.mem_of_getElem? (i := 28) rfl)) rfl⟩
def miX11_guest : fhMI := (yX11_guest, cX11_guest, 3, (some .int))
theorem mvX11_guest : fhMv miX11_guest 2 := ⟨⟨fhm (in_t (in_4 (List.mem_of_getElem? (i := 214) rfl))) rfl, fhm (in_t (in_1 (List.mem_of_getElem? (i := 1) rfl))) rfl, ⟨by decide +kernel, by decide +kernel⟩, by decide +kernel, by decide⟩, fhm (in_t (in_4 (List.mem_of_getElem? (i := 212) rfl))) rfl, fhm (in_t (in_4 (List.mem_of_getElem? (i := 213) rfl))) rfl⟩
def miX4_countRowsOf : fhMI := (yX4_countRowsOf, cX4_countRowsOf, 4, (some .int))
theorem mvX4_countRowsOf : fhMv miX4_countRowsOf 1 := ⟨⟨fhm (in_t (in_4 (List.mem_of_getElem? (i := 219) rfl))) rfl, fhm (in_t (in_1 (List.mem_of_getElem? (i := 10) rfl))) rfl, ⟨by decide +kernel, by decide +kernel⟩, by decide +kernel, by decide⟩, fhm (in_t (in_4 (List.mem_of_getElem? (i := 217) rfl))) rfl, fhm (in_t (in_4 (List.mem_of_getElem? (i := 218) rfl))) rfl⟩
def miX4_isRowOf : fhMI := (yX4_isRowOf, cX4_isRowOf, 3, (some .boolean))
theorem mvX4_isRowOf : fhMv miX4_isRowOf 2 := ⟨⟨fhm (in_t (in_4 (List.mem_of_getElem? (i := 223) rfl))) rfl, fhm (in_t (in_1 (List.mem_of_getElem? (i := 10) rfl))) rfl, ⟨by decide +kernel, by decide +kernel⟩, by decide +kernel, by decide⟩, fhm (in_t (in_4 (List.mem_of_getElem? (i := 222) rfl))) rfl, fhm (List.mem_append_left _ (List.mem_of_getElem? (i := 29) rfl)) rfl⟩
def miX4_isKnower : fhMI := (yX4_isKnower, cX4_isKnower, 2, (some .boolean))
theorem mvX4_isKnower : fhMv miX4_isKnower 1 := ⟨⟨fhm (in_t (in_4 (List.mem_of_getElem? (i := 228) rfl))) rfl, fhm (in_t (in_1 (List.mem_of_getElem? (i := 10) rfl))) rfl, ⟨by decide +kernel, by decide +kernel⟩, by decide +kernel, by decide⟩, fhm (in_t (in_4 (List.mem_of_getElem? (i := 226) rfl))) rfl, fhm (in_t (in_4 (List.mem_of_getElem? (i := 227) rfl))) rfl⟩
def miX11_one : fhMI := (yX11_one, cX11_one, 1, (some .int))
theorem msX11_one : fhMs miX11_one 1 := ⟨⟨fhm (in_t (in_4 (List.mem_of_getElem? (i := 232) rfl))) rfl, fhm (in_t (in_1 (List.mem_of_getElem? (i := 1) rfl))) rfl, ⟨by decide +kernel, by decide +kernel⟩, by decide +kernel, by decide⟩, fhm (in_t (in_4 (List.mem_of_getElem? (i := 231) rfl))) rfl⟩
def miX4_marksHeld : fhMI := (yX4_marksHeld, cX4_marksHeld, 5, (some .int))
theorem mvX4_marksHeld : fhMv miX4_marksHeld 1 := ⟨⟨fhm (in_t (in_4 (List.mem_of_getElem? (i := 236) rfl))) rfl, fhm (in_t (in_1 (List.mem_of_getElem? (i := 10) rfl))) rfl, ⟨by decide +kernel, by decide +kernel⟩, by decide +kernel, by decide⟩, fhm (in_t (in_4 (List.mem_of_getElem? (i := 234) rfl))) rfl, fhm (in_t (in_4 (List.mem_of_getElem? (i := 235) rfl))) rfl⟩
def miX11_fact : fhMI := (yX11_fact, cX11_fact, 3, (some .int))
theorem mvX11_fact : fhMv miX11_fact 2 := ⟨⟨fhm (in_t (in_5 (List.mem_of_getElem? (i := 1) rfl))) rfl, fhm (in_t (in_1 (List.mem_of_getElem? (i := 1) rfl))) rfl, ⟨by decide +kernel, by decide +kernel⟩, by decide +kernel, by decide⟩, fhm (in_t (in_4 (List.mem_of_getElem? (i := 239) rfl))) rfl, fhm (in_t (in_5 (List.mem_of_getElem? (i := 0) rfl))) rfl⟩
def miX11_isFact : fhMI := (yX11_isFact, cX11_isFact, 2, (some .boolean))
theorem mvX11_isFact : fhMv miX11_isFact 1 := ⟨⟨fhm (in_t (in_5 (List.mem_of_getElem? (i := 5) rfl))) rfl, fhm (in_t (in_1 (List.mem_of_getElem? (i := 1) rfl))) rfl, ⟨by decide +kernel, by decide +kernel⟩, by decide +kernel, by decide⟩, fhm (in_t (in_5 (List.mem_of_getElem? (i := 4) rfl))) rfl, fhm (List.mem_append_left _ (List.mem_of_getElem? (i := 30) rfl)) rfl⟩
def miX9_holdsIn : fhMI := (yX9_holdsIn, cX9_holdsIn, 3, (some .boolean))
theorem mvX9_holdsIn : fhMv miX9_holdsIn 2 := ⟨⟨fhm (in_t (in_5 (List.mem_of_getElem? (i := 9) rfl))) rfl, fhm (in_t (in_1 (List.mem_of_getElem? (i := 9) rfl))) rfl, ⟨by decide +kernel, by decide +kernel⟩, by decide +kernel, by decide⟩, fhm (in_t (in_5 (List.mem_of_getElem? (i := 7) rfl))) rfl, fhm (in_t (in_5 (List.mem_of_getElem? (i := 8) rfl))) rfl⟩
def miX4_countAlike : fhMI := (yX4_countAlike, cX4_countAlike, 6, (some .int))
theorem mvX4_countAlike : fhMv miX4_countAlike 2 := ⟨⟨fhm (in_t (in_5 (List.mem_of_getElem? (i := 13) rfl))) rfl, fhm (in_t (in_1 (List.mem_of_getElem? (i := 10) rfl))) rfl, ⟨by decide +kernel, by decide +kernel⟩, by decide +kernel, by decide⟩, fhm (in_t (in_5 (List.mem_of_getElem? (i := 11) rfl))) rfl, fhm (in_t (in_5 (List.mem_of_getElem? (i := 12) rfl))) rfl⟩
def miX9_countHolding : fhMI := (yX9_countHolding, cX9_countHolding, 4, (some .int))
theorem mvX9_countHolding : fhMv miX9_countHolding 1 := ⟨⟨fhm (in_t (in_5 (List.mem_of_getElem? (i := 17) rfl))) rfl, fhm (in_t (in_1 (List.mem_of_getElem? (i := 9) rfl))) rfl, ⟨by decide +kernel, by decide +kernel⟩, by decide +kernel, by decide⟩, fhm (in_t (in_5 (List.mem_of_getElem? (i := 15) rfl))) rfl, fhm (in_t (in_5 (List.mem_of_getElem? (i := 16) rfl))) rfl⟩
def miX11_left : fhMI := (yX11_left, cX11_left, 2, (some .int))
theorem mvX11_left : fhMv miX11_left 1 := ⟨⟨fhm (in_t (in_5 (List.mem_of_getElem? (i := 22) rfl))) rfl, fhm (in_t (in_1 (List.mem_of_getElem? (i := 1) rfl))) rfl, ⟨by decide +kernel, by decide +kernel⟩, by decide +kernel, by decide⟩, fhm (in_t (in_5 (List.mem_of_getElem? (i := 20) rfl))) rfl, fhm (in_t (in_5 (List.mem_of_getElem? (i := 21) rfl))) rfl⟩
def miX11_wears : fhMI := (yX11_wears, cX11_wears, 3, (some .int))
theorem mvX11_wears : fhMv miX11_wears 2 := ⟨⟨fhm (in_t (in_5 (List.mem_of_getElem? (i := 26) rfl))) rfl, fhm (in_t (in_1 (List.mem_of_getElem? (i := 1) rfl))) rfl, ⟨by decide +kernel, by decide +kernel⟩, by decide +kernel, by decide⟩, fhm (in_t (in_5 (List.mem_of_getElem? (i := 24) rfl))) rfl, fhm (in_t (in_5 (List.mem_of_getElem? (i := 25) rfl))) rfl⟩
def miX11_kept : fhMI := (yX11_kept, cX11_kept, 3, (some .int))
theorem mvX11_kept : fhMv miX11_kept 2 := ⟨⟨fhm (in_t (in_5 (List.mem_of_getElem? (i := 30) rfl))) rfl, fhm (in_t (in_1 (List.mem_of_getElem? (i := 1) rfl))) rfl, ⟨by decide +kernel, by decide +kernel⟩, by decide +kernel, by decide⟩, fhm (in_t (in_5 (List.mem_of_getElem? (i := 28) rfl))) rfl, fhm (in_t (in_5 (List.mem_of_getElem? (i := 29) rfl))) rfl⟩
def miX6_entry : fhMI := (yX6_entry, cX6_entry, 4, (some .int))
theorem mvX6_entry : fhMv miX6_entry 2 := ⟨⟨fhm (in_t (in_5 (List.mem_of_getElem? (i := 34) rfl))) rfl, fhm (in_t (in_1 (List.mem_of_getElem? (i := 13) rfl))) rfl, ⟨by decide +kernel, by decide +kernel⟩, by decide +kernel, by decide⟩, fhm (in_t (in_5 (List.mem_of_getElem? (i := 32) rfl))) rfl, fhm (in_t (in_5 (List.mem_of_getElem? (i := 33) rfl))) rfl⟩
def miX11_knows : fhMI := (yX11_knows, cX11_knows, 3, (some .int))
theorem mvX11_knows : fhMv miX11_knows 2 := ⟨⟨fhm (in_t (in_5 (List.mem_of_getElem? (i := 40) rfl))) rfl, fhm (in_t (in_1 (List.mem_of_getElem? (i := 1) rfl))) rfl, ⟨by decide +kernel, by decide +kernel⟩, by decide +kernel, by decide⟩, fhm (in_t (in_5 (List.mem_of_getElem? (i := 38) rfl))) rfl, fhm (in_t (in_5 (List.mem_of_getElem? (i := 39) rfl))) rfl⟩
def miX11_isPair : fhMI := (yX11_isPair, cX11_isPair, 3, (some .boolean))
theorem mvX11_isPair : fhMv miX11_isPair 2 := ⟨⟨fhm (in_t (in_5 (List.mem_of_getElem? (i := 44) rfl))) rfl, fhm (in_t (in_1 (List.mem_of_getElem? (i := 1) rfl))) rfl, ⟨by decide +kernel, by decide +kernel⟩, by decide +kernel, by decide⟩, fhm (in_t (in_5 (List.mem_of_getElem? (i := 43) rfl))) rfl, fhm (List.mem_append_left _ (List.mem_of_getElem? (i := 31) rfl)) rfl⟩
def miX4_knowsOf : fhMI := (yX4_knowsOf, cX4_knowsOf, 8, (some .int))
theorem mvX4_knowsOf : fhMv miX4_knowsOf 2 := ⟨⟨fhm (in_t (in_5 (List.mem_of_getElem? (i := 48) rfl))) rfl, fhm (in_t (in_1 (List.mem_of_getElem? (i := 10) rfl))) rfl, ⟨by decide +kernel, by decide +kernel⟩, by decide +kernel, by decide⟩, fhm (in_t (in_5 (List.mem_of_getElem? (i := 46) rfl))) rfl, fhm (in_t (in_5 (List.mem_of_getElem? (i := 47) rfl))) rfl⟩
def miX11_deep : fhMI := (yX11_deep, cX11_deep, 1, (some .int))
theorem mvX11_deep : fhMv miX11_deep 0 := ⟨⟨fhm (in_t (in_5 (List.mem_of_getElem? (i := 52) rfl))) rfl, fhm (in_t (in_1 (List.mem_of_getElem? (i := 1) rfl))) rfl, ⟨by decide +kernel, by decide +kernel⟩, by decide +kernel, by decide⟩, fhm (in_t (in_5 (List.mem_of_getElem? (i := 50) rfl))) rfl, fhm (in_t (in_5 (List.mem_of_getElem? (i := 51) rfl))) rfl⟩
def miX4_depth : fhMI := (yX4_depth, cX4_depth, 4, (some .int))
theorem mvX4_depth : fhMv miX4_depth 0 := ⟨⟨fhm (in_t (in_5 (List.mem_of_getElem? (i := 56) rfl))) rfl, fhm (in_t (in_1 (List.mem_of_getElem? (i := 10) rfl))) rfl, ⟨by decide +kernel, by decide +kernel⟩, by decide +kernel, by decide⟩, fhm (in_t (in_5 (List.mem_of_getElem? (i := 54) rfl))) rfl, fhm (in_t (in_5 (List.mem_of_getElem? (i := 55) rfl))) rfl⟩
def miX4_deepen : fhMI := (yX4_deepen, cX4_deepen, 4, none)
theorem mvX4_deepen : fhMv miX4_deepen 0 := ⟨⟨fhm (in_t (in_5 (List.mem_of_getElem? (i := 60) rfl))) rfl, fhm (in_t (in_1 (List.mem_of_getElem? (i := 10) rfl))) rfl, ⟨by decide +kernel, by decide +kernel⟩, by decide +kernel, by decide⟩, fhm (in_t (in_5 (List.mem_of_getElem? (i := 59) rfl))) rfl, fhm (List.mem_append_left _ (List.mem_of_getElem? (i := 32) rfl)) rfl⟩
def miX11_later : fhMI := (yX11_later, cX11_later, 3, (some .int))
theorem mvX11_later : fhMv miX11_later 2 := ⟨⟨fhm (in_t (in_5 (List.mem_of_getElem? (i := 64) rfl))) rfl, fhm (in_t (in_1 (List.mem_of_getElem? (i := 1) rfl))) rfl, ⟨by decide +kernel, by decide +kernel⟩, by decide +kernel, by decide⟩, fhm (in_t (in_5 (List.mem_of_getElem? (i := 62) rfl))) rfl, fhm (in_t (in_5 (List.mem_of_getElem? (i := 63) rfl))) rfl⟩
def miX4_lookAhead : fhMI := (yX4_lookAhead, cX4_lookAhead, 1, (some (.object "ForeheadMarks$Ahead")))
theorem mvX4_lookAhead : fhMv miX4_lookAhead 0 := ⟨⟨fhm (in_t (in_5 (List.mem_of_getElem? (i := 68) rfl))) rfl, fhm (in_t (in_1 (List.mem_of_getElem? (i := 10) rfl))) rfl, ⟨by decide +kernel, by decide +kernel⟩, by decide +kernel, by decide⟩, fhm (in_t (in_5 (List.mem_of_getElem? (i := 66) rfl))) rfl, fhm (in_t (in_5 (List.mem_of_getElem? (i := 67) rfl))) rfl⟩
def miX0_prepare : fhMI := (yX0_prepare, cX0_prepare, 5, none)
theorem mvX0_prepare : fhMv miX0_prepare 1 := ⟨⟨fhm (in_t (in_5 (List.mem_of_getElem? (i := 72) rfl))) rfl, fhm (in_t (in_1 (List.mem_of_getElem? (i := 11) rfl))) rfl, ⟨by decide +kernel, by decide +kernel⟩, by decide +kernel, by decide⟩, fhm (in_t (in_5 (List.mem_of_getElem? (i := 70) rfl))) rfl, fhm (in_t (in_5 (List.mem_of_getElem? (i := 71) rfl))) rfl⟩
def miX0_start : fhMI := (yX0_start, cX0_start, 3, none)
theorem mvX0_start : fhMv miX0_start 1 := ⟨⟨fhm (in_t (in_5 (List.mem_of_getElem? (i := 76) rfl))) rfl, fhm (in_t (in_1 (List.mem_of_getElem? (i := 11) rfl))) rfl, ⟨by decide +kernel, by decide +kernel⟩, by decide +kernel, by decide⟩, fhm (in_t (in_5 (List.mem_of_getElem? (i := 75) rfl))) rfl, fhm (List.mem_append_left _ (List.mem_of_getElem? (i := 33) rfl)) rfl⟩
def miX0_shrinkTo : fhMI := (yX0_shrinkTo, cX0_shrinkTo, 5, (some .boolean))
theorem mvX0_shrinkTo : fhMv miX0_shrinkTo 1 := ⟨⟨fhm (in_t (in_5 (List.mem_of_getElem? (i := 84) rfl))) rfl, fhm (in_t (in_1 (List.mem_of_getElem? (i := 11) rfl))) rfl, ⟨by decide +kernel, by decide +kernel⟩, by decide +kernel, by decide⟩, fhm (in_t (in_5 (List.mem_of_getElem? (i := 83) rfl))) rfl, fhm (List.mem_append_left _ (List.mem_of_getElem? (i := 34) rfl)) rfl⟩
def miX11_learns : fhMI := (yX11_learns, cX11_learns, 3, (some .int))
theorem mvX11_learns : fhMv miX11_learns 1 := ⟨⟨fhm (in_t (in_5 (List.mem_of_getElem? (i := 88) rfl))) rfl, fhm (in_t (in_1 (List.mem_of_getElem? (i := 1) rfl))) rfl, ⟨by decide +kernel, by decide +kernel⟩, by decide +kernel, by decide⟩, fhm (in_t (in_5 (List.mem_of_getElem? (i := 86) rfl))) rfl, fhm (in_t (in_5 (List.mem_of_getElem? (i := 87) rfl))) rfl⟩
def miX11_rests : fhMI := (yX11_rests, cX11_rests, 2, (some .int))
theorem mvX11_rests : fhMv miX11_rests 0 := ⟨⟨fhm (in_t (in_5 (List.mem_of_getElem? (i := 92) rfl))) rfl, fhm (in_t (in_1 (List.mem_of_getElem? (i := 1) rfl))) rfl, ⟨by decide +kernel, by decide +kernel⟩, by decide +kernel, by decide⟩, fhm (in_t (in_5 (List.mem_of_getElem? (i := 90) rfl))) rfl, fhm (in_t (in_5 (List.mem_of_getElem? (i := 91) rfl))) rfl⟩
def miX11_hints : fhMI := (yX11_hints, cX11_hints, 2, (some .int))
theorem mvX11_hints : fhMv miX11_hints 1 := ⟨⟨fhm (in_t (in_5 (List.mem_of_getElem? (i := 96) rfl))) rfl, fhm (in_t (in_1 (List.mem_of_getElem? (i := 1) rfl))) rfl, ⟨by decide +kernel, by decide +kernel⟩, by decide +kernel, by decide⟩, fhm (in_t (in_5 (List.mem_of_getElem? (i := 94) rfl))) rfl, fhm (in_t (in_5 (List.mem_of_getElem? (i := 95) rfl))) rfl⟩
def miX4_fewestFacts : fhMI := (yX4_fewestFacts, cX4_fewestFacts, 6, (some .int))
theorem mvX4_fewestFacts : fhMv miX4_fewestFacts 2 := ⟨⟨fhm (in_t (in_5 (List.mem_of_getElem? (i := 100) rfl))) rfl, fhm (in_t (in_1 (List.mem_of_getElem? (i := 10) rfl))) rfl, ⟨by decide +kernel, by decide +kernel⟩, by decide +kernel, by decide⟩, fhm (in_t (in_5 (List.mem_of_getElem? (i := 98) rfl))) rfl, fhm (in_t (in_5 (List.mem_of_getElem? (i := 99) rfl))) rfl⟩
def miX4_gatherDoubts : fhMI := (yX4_gatherDoubts, cX4_gatherDoubts, 5, none)
theorem mvX4_gatherDoubts : fhMv miX4_gatherDoubts 2 := ⟨⟨fhm (in_t (in_5 (List.mem_of_getElem? (i := 104) rfl))) rfl, fhm (in_t (in_1 (List.mem_of_getElem? (i := 10) rfl))) rfl, ⟨by decide +kernel, by decide +kernel⟩, by decide +kernel, by decide⟩, fhm (in_t (in_5 (List.mem_of_getElem? (i := 103) rfl))) rfl, fhm (List.mem_append_left _ (List.mem_of_getElem? (i := 35) rfl)) rfl⟩
def miX4_isCleared : fhMI := (yX4_isCleared, cX4_isCleared, 4, (some .boolean))
theorem mvX4_isCleared : fhMv miX4_isCleared 2 := ⟨⟨fhm (in_t (in_5 (List.mem_of_getElem? (i := 110) rfl))) rfl, fhm (in_t (in_1 (List.mem_of_getElem? (i := 10) rfl))) rfl, ⟨by decide +kernel, by decide +kernel⟩, by decide +kernel, by decide⟩, fhm (in_t (in_5 (List.mem_of_getElem? (i := 109) rfl))) rfl, fhm (List.mem_append_left _ (List.mem_of_getElem? (i := 36) rfl)) rfl⟩
def miX11_secret : fhMI := (yX11_secret, cX11_secret, 3, (some .int))
theorem mvX11_secret : fhMv miX11_secret 2 := ⟨⟨fhm (in_t (in_5 (List.mem_of_getElem? (i := 114) rfl))) rfl, fhm (in_t (in_1 (List.mem_of_getElem? (i := 1) rfl))) rfl, ⟨by decide +kernel, by decide +kernel⟩, by decide +kernel, by decide⟩, fhm (in_t (in_5 (List.mem_of_getElem? (i := 112) rfl))) rfl, fhm (in_t (in_5 (List.mem_of_getElem? (i := 113) rfl))) rfl⟩
def miX11_speaker : fhMI := (yX11_speaker, cX11_speaker, 3, (some .int))
theorem mvX11_speaker : fhMv miX11_speaker 1 := ⟨⟨fhm (in_t (in_5 (List.mem_of_getElem? (i := 118) rfl))) rfl, fhm (in_t (in_1 (List.mem_of_getElem? (i := 1) rfl))) rfl, ⟨by decide +kernel, by decide +kernel⟩, by decide +kernel, by decide⟩, fhm (in_t (in_5 (List.mem_of_getElem? (i := 116) rfl))) rfl, fhm (in_t (in_5 (List.mem_of_getElem? (i := 117) rfl))) rfl⟩
def miX4_bestSpeaker : fhMI := (yX4_bestSpeaker, cX4_bestSpeaker, 5, (some .int))
theorem mvX4_bestSpeaker : fhMv miX4_bestSpeaker 0 := ⟨⟨fhm (in_t (in_5 (List.mem_of_getElem? (i := 122) rfl))) rfl, fhm (in_t (in_1 (List.mem_of_getElem? (i := 10) rfl))) rfl, ⟨by decide +kernel, by decide +kernel⟩, by decide +kernel, by decide⟩, fhm (in_t (in_5 (List.mem_of_getElem? (i := 120) rfl))) rfl, fhm (in_t (in_5 (List.mem_of_getElem? (i := 121) rfl))) rfl⟩
def miX11_slowest : fhMI := (yX11_slowest, cX11_slowest, 4, (some .int))
theorem mvX11_slowest : fhMv miX11_slowest 2 := ⟨⟨fhm (in_t (in_5 (List.mem_of_getElem? (i := 127) rfl))) rfl, fhm (in_t (in_1 (List.mem_of_getElem? (i := 1) rfl))) rfl, ⟨by decide +kernel, by decide +kernel⟩, by decide +kernel, by decide⟩, fhm (in_t (in_5 (List.mem_of_getElem? (i := 125) rfl))) rfl, fhm (in_t (in_5 (List.mem_of_getElem? (i := 126) rfl))) rfl⟩
def miX1_prepare : fhMI := (yX1_prepare, cX1_prepare, 4, none)
theorem mvX1_prepare : fhMv miX1_prepare 0 := ⟨⟨fhm (in_t (in_5 (List.mem_of_getElem? (i := 131) rfl))) rfl, fhm (in_t (in_1 (List.mem_of_getElem? (i := 12) rfl))) rfl, ⟨by decide +kernel, by decide +kernel⟩, by decide +kernel, by decide⟩, fhm (in_t (in_5 (List.mem_of_getElem? (i := 129) rfl))) rfl, fhm (in_t (in_5 (List.mem_of_getElem? (i := 130) rfl))) rfl⟩
def miX1_start : fhMI := (yX1_start, cX1_start, 2, none)
theorem mvX1_start : fhMv miX1_start 0 := ⟨⟨fhm (in_t (in_5 (List.mem_of_getElem? (i := 135) rfl))) rfl, fhm (in_t (in_1 (List.mem_of_getElem? (i := 12) rfl))) rfl, ⟨by decide +kernel, by decide +kernel⟩, by decide +kernel, by decide⟩, fhm (in_t (in_5 (List.mem_of_getElem? (i := 134) rfl))) rfl, fhm (List.mem_append_left _ (List.mem_of_getElem? (i := 37) rfl)) rfl⟩
def miX1_splitGroups : fhMI := (yX1_splitGroups, cX1_splitGroups, 5, none)
theorem mvX1_splitGroups : fhMv miX1_splitGroups 1 := ⟨⟨fhm (in_t (in_5 (List.mem_of_getElem? (i := 141) rfl))) rfl, fhm (in_t (in_1 (List.mem_of_getElem? (i := 12) rfl))) rfl, ⟨by decide +kernel, by decide +kernel⟩, by decide +kernel, by decide⟩, fhm (in_t (in_5 (List.mem_of_getElem? (i := 140) rfl))) rfl, fhm (List.mem_append_left _ (List.mem_of_getElem? (i := 38) rfl)) rfl⟩
def miX1_noteKnowers : fhMI := (yX1_noteKnowers, cX1_noteKnowers, 8, none)
theorem mvX1_noteKnowers : fhMv miX1_noteKnowers 3 := ⟨⟨fhm (in_t (in_5 (List.mem_of_getElem? (i := 146) rfl))) rfl, fhm (in_t (in_1 (List.mem_of_getElem? (i := 12) rfl))) rfl, ⟨by decide +kernel, by decide +kernel⟩, by decide +kernel, by decide⟩, fhm (in_t (in_5 (List.mem_of_getElem? (i := 145) rfl))) rfl, fhm (List.mem_append_left _ (List.mem_of_getElem? (i := 39) rfl)) rfl⟩
def miX1_splitGroup : fhMI := (yX1_splitGroup, cX1_splitGroup, 8, none)
theorem mvX1_splitGroup : fhMv miX1_splitGroup 2 := ⟨⟨fhm (in_t (in_5 (List.mem_of_getElem? (i := 151) rfl))) rfl, fhm (in_t (in_1 (List.mem_of_getElem? (i := 12) rfl))) rfl, ⟨by decide +kernel, by decide +kernel⟩, by decide +kernel, by decide⟩, fhm (in_t (in_5 (List.mem_of_getElem? (i := 150) rfl))) rfl, fhm (List.mem_append_left _ (List.mem_of_getElem? (i := 40) rfl)) rfl⟩
def miX1_slowestRow : fhMI := (yX1_slowestRow, cX1_slowestRow, 6, (some .int))
theorem mvX1_slowestRow : fhMv miX1_slowestRow 1 := ⟨⟨fhm (in_t (in_5 (List.mem_of_getElem? (i := 155) rfl))) rfl, fhm (in_t (in_1 (List.mem_of_getElem? (i := 12) rfl))) rfl, ⟨by decide +kernel, by decide +kernel⟩, by decide +kernel, by decide⟩, fhm (in_t (in_5 (List.mem_of_getElem? (i := 153) rfl))) rfl, fhm (in_t (in_5 (List.mem_of_getElem? (i := 154) rfl))) rfl⟩
def miX1_firstKnown : fhMI := (yX1_firstKnown, cX1_firstKnown, 3, (some .int))
theorem mvX1_firstKnown : fhMv miX1_firstKnown 2 := ⟨⟨fhm (in_t (in_5 (List.mem_of_getElem? (i := 159) rfl))) rfl, fhm (in_t (in_1 (List.mem_of_getElem? (i := 12) rfl))) rfl, ⟨by decide +kernel, by decide +kernel⟩, by decide +kernel, by decide⟩, fhm (in_t (in_5 (List.mem_of_getElem? (i := 157) rfl))) rfl, fhm (in_t (in_5 (List.mem_of_getElem? (i := 158) rfl))) rfl⟩
def miX11_odds : fhMI := (yX11_odds, cX11_odds, 3, (some .int))
theorem mvX11_odds : fhMv miX11_odds 2 := ⟨⟨fhm (in_t (in_5 (List.mem_of_getElem? (i := 164) rfl))) rfl, fhm (in_t (in_1 (List.mem_of_getElem? (i := 1) rfl))) rfl, ⟨by decide +kernel, by decide +kernel⟩, by decide +kernel, by decide⟩, fhm (in_t (in_5 (List.mem_of_getElem? (i := 162) rfl))) rfl, fhm (in_t (in_5 (List.mem_of_getElem? (i := 163) rfl))) rfl⟩
def miX1_countKnowing : fhMI := (yX1_countKnowing, cX1_countKnowing, 5, (some .int))
theorem mvX1_countKnowing : fhMv miX1_countKnowing 2 := ⟨⟨fhm (in_t (in_5 (List.mem_of_getElem? (i := 168) rfl))) rfl, fhm (in_t (in_1 (List.mem_of_getElem? (i := 12) rfl))) rfl, ⟨by decide +kernel, by decide +kernel⟩, by decide +kernel, by decide⟩, fhm (in_t (in_5 (List.mem_of_getElem? (i := 166) rfl))) rfl, fhm (in_t (in_5 (List.mem_of_getElem? (i := 167) rfl))) rfl⟩
def miX11_hear : fhMI := (yX11_hear, cX11_hear, 2, (some .int))
theorem mvX11_hear : fhMv miX11_hear 0 := ⟨⟨fhm (in_t (in_5 (List.mem_of_getElem? (i := 172) rfl))) rfl, fhm (in_t (in_1 (List.mem_of_getElem? (i := 1) rfl))) rfl, ⟨by decide +kernel, by decide +kernel⟩, by decide +kernel, by decide⟩, fhm (in_t (in_5 (List.mem_of_getElem? (i := 170) rfl))) rfl, fhm (in_t (in_5 (List.mem_of_getElem? (i := 171) rfl))) rfl⟩
def miX1_listen : fhMI := (yX1_listen, cX1_listen, 5, (some .boolean))
theorem mvX1_listen : fhMv miX1_listen 2 := ⟨⟨fhm (in_t (in_5 (List.mem_of_getElem? (i := 176) rfl))) rfl, fhm (in_t (in_1 (List.mem_of_getElem? (i := 12) rfl))) rfl, ⟨by decide +kernel, by decide +kernel⟩, by decide +kernel, by decide⟩, fhm (in_t (in_5 (List.mem_of_getElem? (i := 174) rfl))) rfl, fhm (in_t (in_5 (List.mem_of_getElem? (i := 175) rfl))) rfl⟩
def miX11_fits : fhMI := (yX11_fits, cX11_fits, 2, (some .int))
theorem mvX11_fits : fhMv miX11_fits 1 := ⟨⟨fhm (in_t (in_5 (List.mem_of_getElem? (i := 180) rfl))) rfl, fhm (in_t (in_1 (List.mem_of_getElem? (i := 1) rfl))) rfl, ⟨by decide +kernel, by decide +kernel⟩, by decide +kernel, by decide⟩, fhm (in_t (in_5 (List.mem_of_getElem? (i := 178) rfl))) rfl, fhm (in_t (in_5 (List.mem_of_getElem? (i := 179) rfl))) rfl⟩
def miX1_findFitting : fhMI := (yX1_findFitting, cX1_findFitting, 3, none)
theorem mvX1_findFitting : fhMv miX1_findFitting 0 := ⟨⟨fhm (in_t (in_5 (List.mem_of_getElem? (i := 184) rfl))) rfl, fhm (in_t (in_1 (List.mem_of_getElem? (i := 12) rfl))) rfl, ⟨by decide +kernel, by decide +kernel⟩, by decide +kernel, by decide⟩, fhm (in_t (in_5 (List.mem_of_getElem? (i := 182) rfl))) rfl, fhm (in_t (in_5 (List.mem_of_getElem? (i := 183) rfl))) rfl⟩
def miX1_isFitting : fhMI := (yX1_isFitting, cX1_isFitting, 4, (some .boolean))
theorem mvX1_isFitting : fhMv miX1_isFitting 1 := ⟨⟨fhm (in_t (in_5 (List.mem_of_getElem? (i := 189) rfl))) rfl, fhm (in_t (in_1 (List.mem_of_getElem? (i := 12) rfl))) rfl, ⟨by decide +kernel, by decide +kernel⟩, by decide +kernel, by decide⟩, fhm (in_t (in_5 (List.mem_of_getElem? (i := 188) rfl))) rfl, fhm (List.mem_append_left _ (List.mem_of_getElem? (i := 41) rfl)) rfl⟩
def miX11_could : fhMI := (yX11_could, cX11_could, 2, (some .int))
theorem mvX11_could : fhMv miX11_could 1 := ⟨⟨fhm (in_t (in_5 (List.mem_of_getElem? (i := 193) rfl))) rfl, fhm (in_t (in_1 (List.mem_of_getElem? (i := 1) rfl))) rfl, ⟨by decide +kernel, by decide +kernel⟩, by decide +kernel, by decide⟩, fhm (in_t (in_5 (List.mem_of_getElem? (i := 191) rfl))) rfl, fhm (in_t (in_5 (List.mem_of_getElem? (i := 192) rfl))) rfl⟩
def miX1_marksFitting : fhMI := (yX1_marksFitting, cX1_marksFitting, 4, (some .int))
theorem mvX1_marksFitting : fhMv miX1_marksFitting 1 := ⟨⟨fhm (in_t (in_5 (List.mem_of_getElem? (i := 197) rfl))) rfl, fhm (in_t (in_1 (List.mem_of_getElem? (i := 12) rfl))) rfl, ⟨by decide +kernel, by decide +kernel⟩, by decide +kernel, by decide⟩, fhm (in_t (in_5 (List.mem_of_getElem? (i := 195) rfl))) rfl, fhm (in_t (in_5 (List.mem_of_getElem? (i := 196) rfl))) rfl⟩
def miX11_tells : fhMI := (yX11_tells, cX11_tells, 3, (some .int))
theorem mvX11_tells : fhMv miX11_tells 1 := ⟨⟨fhm (in_t (in_5 (List.mem_of_getElem? (i := 202) rfl))) rfl, fhm (in_t (in_1 (List.mem_of_getElem? (i := 1) rfl))) rfl, ⟨by decide +kernel, by decide +kernel⟩, by decide +kernel, by decide⟩, fhm (in_t (in_5 (List.mem_of_getElem? (i := 200) rfl))) rfl, fhm (in_t (in_5 (List.mem_of_getElem? (i := 201) rfl))) rfl⟩
def miX1_bestTelling : fhMI := (yX1_bestTelling, cX1_bestTelling, 6, (some .int))
theorem mvX1_bestTelling : fhMv miX1_bestTelling 0 := ⟨⟨fhm (in_t (in_5 (List.mem_of_getElem? (i := 206) rfl))) rfl, fhm (in_t (in_1 (List.mem_of_getElem? (i := 12) rfl))) rfl, ⟨by decide +kernel, by decide +kernel⟩, by decide +kernel, by decide⟩, fhm (in_t (in_5 (List.mem_of_getElem? (i := 204) rfl))) rfl, fhm (in_t (in_5 (List.mem_of_getElem? (i := 205) rfl))) rfl⟩
def miX1_mostLeft : fhMI := (yX1_mostLeft, cX1_mostLeft, 5, (some .int))
theorem mvX1_mostLeft : fhMv miX1_mostLeft 2 := ⟨⟨fhm (in_t (in_5 (List.mem_of_getElem? (i := 210) rfl))) rfl, fhm (in_t (in_1 (List.mem_of_getElem? (i := 12) rfl))) rfl, ⟨by decide +kernel, by decide +kernel⟩, by decide +kernel, by decide⟩, fhm (in_t (in_5 (List.mem_of_getElem? (i := 208) rfl))) rfl, fhm (in_t (in_5 (List.mem_of_getElem? (i := 209) rfl))) rfl⟩
def miX11_round : fhMI := (yX11_round, cX11_round, 1, (some .int))
theorem mvX11_round : fhMv miX11_round 0 := ⟨⟨fhm (in_t (in_5 (List.mem_of_getElem? (i := 216) rfl))) rfl, fhm (in_t (in_1 (List.mem_of_getElem? (i := 1) rfl))) rfl, ⟨by decide +kernel, by decide +kernel⟩, by decide +kernel, by decide⟩, fhm (in_t (in_5 (List.mem_of_getElem? (i := 214) rfl))) rfl, fhm (in_t (in_5 (List.mem_of_getElem? (i := 215) rfl))) rfl⟩
def miX6_save : fhMI := (yX6_save, cX6_save, 6, none)
theorem mvX6_save : fhMv miX6_save 1 := ⟨⟨fhm (in_t (in_5 (List.mem_of_getElem? (i := 220) rfl))) rfl, fhm (in_t (in_1 (List.mem_of_getElem? (i := 13) rfl))) rfl, ⟨by decide +kernel, by decide +kernel⟩, by decide +kernel, by decide⟩, fhm (in_t (in_5 (List.mem_of_getElem? (i := 218) rfl))) rfl, fhm (in_t (in_5 (List.mem_of_getElem? (i := 219) rfl))) rfl⟩
def miX11_playRound : fhMI := (yX11_playRound, cX11_playRound, 5, (some .int))
theorem mvX11_playRound : fhMv miX11_playRound 1 := ⟨⟨fhm (in_t (in_5 (List.mem_of_getElem? (i := 225) rfl))) rfl, fhm (in_t (in_1 (List.mem_of_getElem? (i := 1) rfl))) rfl, ⟨by decide +kernel, by decide +kernel⟩, by decide +kernel, by decide⟩, fhm (in_t (in_5 (List.mem_of_getElem? (i := 224) rfl))) rfl, fhm (List.mem_append_left _ (List.mem_of_getElem? (i := 42) rfl)) rfl⟩
def miX4_keepAlike : fhMI := (yX4_keepAlike, cX4_keepAlike, 7, none)
theorem mvX4_keepAlike : fhMv miX4_keepAlike 2 := ⟨⟨fhm (in_t (in_5 (List.mem_of_getElem? (i := 229) rfl))) rfl, fhm (in_t (in_1 (List.mem_of_getElem? (i := 10) rfl))) rfl, ⟨by decide +kernel, by decide +kernel⟩, by decide +kernel, by decide⟩, fhm (in_t (in_5 (List.mem_of_getElem? (i := 227) rfl))) rfl, fhm (in_t (in_5 (List.mem_of_getElem? (i := 228) rfl))) rfl⟩
def miX6_write : fhMI := (yX6_write, cX6_write, 6, none)
theorem mvX6_write : fhMv miX6_write 4 := ⟨⟨fhm (in_t (in_5 (List.mem_of_getElem? (i := 233) rfl))) rfl, fhm (in_t (in_1 (List.mem_of_getElem? (i := 13) rfl))) rfl, ⟨by decide +kernel, by decide +kernel⟩, by decide +kernel, by decide⟩, fhm (in_t (in_5 (List.mem_of_getElem? (i := 231) rfl))) rfl, fhm (in_t (in_5 (List.mem_of_getElem? (i := 232) rfl))) rfl⟩
def miX11_says : fhMI := (yX11_says, cX11_says, 3, (some .int))
theorem mvX11_says : fhMv miX11_says 1 := ⟨⟨fhm (in_t (in_5 (List.mem_of_getElem? (i := 237) rfl))) rfl, fhm (in_t (in_1 (List.mem_of_getElem? (i := 1) rfl))) rfl, ⟨by decide +kernel, by decide +kernel⟩, by decide +kernel, by decide⟩, fhm (in_t (in_5 (List.mem_of_getElem? (i := 235) rfl))) rfl, fhm (in_t (in_5 (List.mem_of_getElem? (i := 236) rfl))) rfl⟩
def miX11_tell : fhMI := (yX11_tell, cX11_tell, 3, (some .int))
theorem mvX11_tell : fhMv miX11_tell 1 := ⟨⟨fhm (in_t (in_6 (List.mem_of_getElem? (i := 1) rfl))) rfl, fhm (in_t (in_1 (List.mem_of_getElem? (i := 1) rfl))) rfl, ⟨by decide +kernel, by decide +kernel⟩, by decide +kernel, by decide⟩, fhm (in_t (in_5 (List.mem_of_getElem? (i := 239) rfl))) rfl, fhm (in_t (in_6 (List.mem_of_getElem? (i := 0) rfl))) rfl⟩
def miX11_wear : fhMI := (yX11_wear, cX11_wear, 4, (some .boolean))
theorem mvX11_wear : fhMv miX11_wear 2 := ⟨⟨fhm (in_t (in_6 (List.mem_of_getElem? (i := 5) rfl))) rfl, fhm (in_t (in_1 (List.mem_of_getElem? (i := 1) rfl))) rfl, ⟨by decide +kernel, by decide +kernel⟩, by decide +kernel, by decide⟩, fhm (in_t (in_6 (List.mem_of_getElem? (i := 3) rfl))) rfl, fhm (in_t (in_6 (List.mem_of_getElem? (i := 4) rfl))) rfl⟩
def miX9_withMark : fhMI := (yX9_withMark, cX9_withMark, 4, (some .int))
theorem mvX9_withMark : fhMv miX9_withMark 3 := ⟨⟨fhm (in_t (in_6 (List.mem_of_getElem? (i := 9) rfl))) rfl, fhm (in_t (in_1 (List.mem_of_getElem? (i := 9) rfl))) rfl, ⟨by decide +kernel, by decide +kernel⟩, by decide +kernel, by decide⟩, fhm (in_t (in_6 (List.mem_of_getElem? (i := 7) rfl))) rfl, fhm (in_t (in_6 (List.mem_of_getElem? (i := 8) rfl))) rfl⟩
def miX9_isAllowed : fhMI := (yX9_isAllowed, cX9_isAllowed, 2, (some .boolean))
theorem mvX9_isAllowed : fhMv miX9_isAllowed 1 := ⟨⟨fhm (in_t (in_6 (List.mem_of_getElem? (i := 13) rfl))) rfl, fhm (in_t (in_1 (List.mem_of_getElem? (i := 9) rfl))) rfl, ⟨by decide +kernel, by decide +kernel⟩, by decide +kernel, by decide⟩, fhm (in_t (in_6 (List.mem_of_getElem? (i := 11) rfl))) rfl, fhm (in_t (in_6 (List.mem_of_getElem? (i := 12) rfl))) rfl⟩
def miX11_chance : fhMI := (yX11_chance, cX11_chance, 5, (some .int))
theorem mvX11_chance : fhMv miX11_chance 1 := ⟨⟨fhm (in_t (in_6 (List.mem_of_getElem? (i := 17) rfl))) rfl, fhm (in_t (in_1 (List.mem_of_getElem? (i := 1) rfl))) rfl, ⟨by decide +kernel, by decide +kernel⟩, by decide +kernel, by decide⟩, fhm (in_t (in_6 (List.mem_of_getElem? (i := 15) rfl))) rfl, fhm (in_t (in_6 (List.mem_of_getElem? (i := 16) rfl))) rfl⟩
def miX11_draw : fhMI := (yX11_draw, cX11_draw, 2, (some .int))
theorem mvX11_draw : fhMv miX11_draw 1 := ⟨⟨fhm (in_t (in_6 (List.mem_of_getElem? (i := 21) rfl))) rfl, fhm (in_t (in_1 (List.mem_of_getElem? (i := 1) rfl))) rfl, ⟨by decide +kernel, by decide +kernel⟩, by decide +kernel, by decide⟩, fhm (in_t (in_6 (List.mem_of_getElem? (i := 20) rfl))) rfl, fhm (List.mem_append_left _ (List.mem_of_getElem? (i := 43) rfl)) rfl⟩
def miX11_deal : fhMI := (yX11_deal, cX11_deal, 1, (some .int))
theorem mvX11_deal : fhMv miX11_deal 0 := ⟨⟨fhm (in_t (in_6 (List.mem_of_getElem? (i := 27) rfl))) rfl, fhm (in_t (in_1 (List.mem_of_getElem? (i := 1) rfl))) rfl, ⟨by decide +kernel, by decide +kernel⟩, by decide +kernel, by decide⟩, fhm (in_t (in_6 (List.mem_of_getElem? (i := 25) rfl))) rfl, fhm (in_t (in_6 (List.mem_of_getElem? (i := 26) rfl))) rfl⟩
def miX11_undo : fhMI := (yX11_undo, cX11_undo, 1, (some .boolean))
theorem mvX11_undo : fhMv miX11_undo 0 := ⟨⟨fhm (in_t (in_6 (List.mem_of_getElem? (i := 31) rfl))) rfl, fhm (in_t (in_1 (List.mem_of_getElem? (i := 1) rfl))) rfl, ⟨by decide +kernel, by decide +kernel⟩, by decide +kernel, by decide⟩, fhm (in_t (in_6 (List.mem_of_getElem? (i := 29) rfl))) rfl, fhm (in_t (in_6 (List.mem_of_getElem? (i := 30) rfl))) rfl⟩
def miX6_restore : fhMI := (yX6_restore, cX6_restore, 4, (some .boolean))
theorem mvX6_restore : fhMv miX6_restore 1 := ⟨⟨fhm (in_t (in_6 (List.mem_of_getElem? (i := 35) rfl))) rfl, fhm (in_t (in_1 (List.mem_of_getElem? (i := 13) rfl))) rfl, ⟨by decide +kernel, by decide +kernel⟩, by decide +kernel, by decide⟩, fhm (in_t (in_6 (List.mem_of_getElem? (i := 33) rfl))) rfl, fhm (in_t (in_6 (List.mem_of_getElem? (i := 34) rfl))) rfl⟩
def miX11_seed : fhMI := (yX11_seed, cX11_seed, 2, (some .boolean))
theorem mvX11_seed : fhMv miX11_seed 1 := ⟨⟨fhm (in_t (in_6 (List.mem_of_getElem? (i := 40) rfl))) rfl, fhm (in_t (in_1 (List.mem_of_getElem? (i := 1) rfl))) rfl, ⟨by decide +kernel, by decide +kernel⟩, by decide +kernel, by decide⟩, fhm (in_t (in_6 (List.mem_of_getElem? (i := 38) rfl))) rfl, fhm (in_t (in_6 (List.mem_of_getElem? (i := 39) rfl))) rfl⟩
def miX11_ask : fhMI := (yX11_ask, cX11_ask, 3, (some .long))
theorem mvX11_ask : fhMv miX11_ask 0 := ⟨⟨fhm (in_t (in_6 (List.mem_of_getElem? (i := 44) rfl))) rfl, fhm (in_t (in_1 (List.mem_of_getElem? (i := 1) rfl))) rfl, ⟨by decide +kernel, by decide +kernel⟩, by decide +kernel, by decide⟩, fhm (in_t (in_6 (List.mem_of_getElem? (i := 42) rfl))) rfl, fhm (in_t (in_6 (List.mem_of_getElem? (i := 43) rfl))) rfl⟩
def miX5_readQuestion : fhMI := (yX5_readQuestion, cX5_readQuestion, 4, (some .int))
theorem mvX5_readQuestion : fhMv miX5_readQuestion 2 := ⟨⟨fhm (in_t (in_6 (List.mem_of_getElem? (i := 50) rfl))) rfl, fhm (in_t (in_1 (List.mem_of_getElem? (i := 6) rfl))) rfl, ⟨by decide +kernel, by decide +kernel⟩, by decide +kernel, by decide⟩, fhm (in_t (in_6 (List.mem_of_getElem? (i := 48) rfl))) rfl, fhm (in_t (in_6 (List.mem_of_getElem? (i := 49) rfl))) rfl⟩
def miX8_isEnd : fhMI := (yX8_isEnd, cX8_isEnd, 1, (some .boolean))
theorem mvX8_isEnd : fhMv miX8_isEnd 0 := ⟨⟨fhm (in_t (in_6 (List.mem_of_getElem? (i := 54) rfl))) rfl, fhm (in_t (in_1 (List.mem_of_getElem? (i := 4) rfl))) rfl, ⟨by decide +kernel, by decide +kernel⟩, by decide +kernel, by decide⟩, fhm (in_t (in_6 (List.mem_of_getElem? (i := 52) rfl))) rfl, fhm (in_t (in_6 (List.mem_of_getElem? (i := 53) rfl))) rfl⟩
def miX11_answer : fhMI := (yX11_answer, cX11_answer, 11, (some .long))
theorem mvX11_answer : fhMv miX11_answer 1 := ⟨⟨fhm (in_t (in_6 (List.mem_of_getElem? (i := 58) rfl))) rfl, fhm (in_t (in_1 (List.mem_of_getElem? (i := 1) rfl))) rfl, ⟨by decide +kernel, by decide +kernel⟩, by decide +kernel, by decide⟩, fhm (in_t (in_6 (List.mem_of_getElem? (i := 57) rfl))) rfl, fhm (List.mem_append_left _ (List.mem_of_getElem? (i := 44) rfl)) rfl⟩
def miX10_fillFromGuest : fhMI := (yX10_fillFromGuest, cX10_fillFromGuest, 6, none)
theorem mvX10_fillFromGuest : fhMv miX10_fillFromGuest 2 := ⟨⟨fhm (in_t (in_6 (List.mem_of_getElem? (i := 62) rfl))) rfl, fhm (in_t (in_1 (List.mem_of_getElem? (i := 7) rfl))) rfl, ⟨by decide +kernel, by decide +kernel⟩, by decide +kernel, by decide⟩, fhm (in_t (in_6 (List.mem_of_getElem? (i := 60) rfl))) rfl, fhm (in_t (in_6 (List.mem_of_getElem? (i := 61) rfl))) rfl⟩
def miX11_image : fhMI := (yX11_image, cX11_image, 5, (some .int))
theorem mvX11_image : fhMv miX11_image 0 := ⟨⟨fhm (in_t (in_6 (List.mem_of_getElem? (i := 73) rfl))) rfl, fhm (in_t (in_1 (List.mem_of_getElem? (i := 1) rfl))) rfl, ⟨by decide +kernel, by decide +kernel⟩, by decide +kernel, by decide⟩, fhm (in_t (in_6 (List.mem_of_getElem? (i := 71) rfl))) rfl, fhm (in_t (in_6 (List.mem_of_getElem? (i := 72) rfl))) rfl⟩
def miX11_pictureSize : fhMI := (yX11_pictureSize, cX11_pictureSize, 1, (some .int))
theorem mvX11_pictureSize : fhMv miX11_pictureSize 0 := ⟨⟨fhm (in_t (in_6 (List.mem_of_getElem? (i := 78) rfl))) rfl, fhm (in_t (in_1 (List.mem_of_getElem? (i := 1) rfl))) rfl, ⟨by decide +kernel, by decide +kernel⟩, by decide +kernel, by decide⟩, fhm (in_t (in_6 (List.mem_of_getElem? (i := 77) rfl))) rfl, fhm (List.mem_append_left _ (List.mem_of_getElem? (i := 45) rfl)) rfl⟩
def miX11_checkByte : fhMI := (yX11_checkByte, cX11_checkByte, 4, (some .int))
theorem msX11_checkByte : fhMs miX11_checkByte 2 := ⟨⟨fhm (in_t (in_6 (List.mem_of_getElem? (i := 81) rfl))) rfl, fhm (in_t (in_1 (List.mem_of_getElem? (i := 1) rfl))) rfl, ⟨by decide +kernel, by decide +kernel⟩, by decide +kernel, by decide⟩, fhm (in_t (in_6 (List.mem_of_getElem? (i := 80) rfl))) rfl⟩
def miX11_octet : fhMI := (yX11_octet, cX11_octet, 2, (some .int))
theorem mvX11_octet : fhMv miX11_octet 1 := ⟨⟨fhm (in_t (in_6 (List.mem_of_getElem? (i := 85) rfl))) rfl, fhm (in_t (in_1 (List.mem_of_getElem? (i := 1) rfl))) rfl, ⟨by decide +kernel, by decide +kernel⟩, by decide +kernel, by decide⟩, fhm (in_t (in_6 (List.mem_of_getElem? (i := 83) rfl))) rfl, fhm (in_t (in_6 (List.mem_of_getElem? (i := 84) rfl))) rfl⟩
def miX11_on : fhMI := (yX11_on, cX11_on, 4, (some .boolean))
theorem mvX11_on : fhMv miX11_on 0 := ⟨⟨fhm (in_t (in_6 (List.mem_of_getElem? (i := 89) rfl))) rfl, fhm (in_t (in_1 (List.mem_of_getElem? (i := 1) rfl))) rfl, ⟨by decide +kernel, by decide +kernel⟩, by decide +kernel, by decide⟩, fhm (in_t (in_6 (List.mem_of_getElem? (i := 87) rfl))) rfl, fhm (in_t (in_6 (List.mem_of_getElem? (i := 88) rfl))) rfl⟩
def miX11_rowOfPicture : fhMI := (yX11_rowOfPicture, cX11_rowOfPicture, 4, (some .int))
theorem mvX11_rowOfPicture : fhMv miX11_rowOfPicture 1 := ⟨⟨fhm (in_t (in_6 (List.mem_of_getElem? (i := 93) rfl))) rfl, fhm (in_t (in_1 (List.mem_of_getElem? (i := 1) rfl))) rfl, ⟨by decide +kernel, by decide +kernel⟩, by decide +kernel, by decide⟩, fhm (in_t (in_6 (List.mem_of_getElem? (i := 92) rfl))) rfl, fhm (List.mem_append_left _ (List.mem_of_getElem? (i := 46) rfl)) rfl⟩
def miX11_isLeftFitting : fhMI := (yX11_isLeftFitting, cX11_isLeftFitting, 4, (some .boolean))
theorem mvX11_isLeftFitting : fhMv miX11_isLeftFitting 1 := ⟨⟨fhm (in_t (in_6 (List.mem_of_getElem? (i := 97) rfl))) rfl, fhm (in_t (in_1 (List.mem_of_getElem? (i := 1) rfl))) rfl, ⟨by decide +kernel, by decide +kernel⟩, by decide +kernel, by decide⟩, fhm (in_t (in_6 (List.mem_of_getElem? (i := 96) rfl))) rfl, fhm (List.mem_append_left _ (List.mem_of_getElem? (i := 47) rfl)) rfl⟩
def miX11_tapeBit : fhMI := (yX11_tapeBit, cX11_tapeBit, 2, (some .boolean))
theorem mvX11_tapeBit : fhMv miX11_tapeBit 1 := ⟨⟨fhm (in_t (in_6 (List.mem_of_getElem? (i := 101) rfl))) rfl, fhm (in_t (in_1 (List.mem_of_getElem? (i := 1) rfl))) rfl, ⟨by decide +kernel, by decide +kernel⟩, by decide +kernel, by decide⟩, fhm (in_t (in_6 (List.mem_of_getElem? (i := 100) rfl))) rfl, fhm (List.mem_append_left _ (List.mem_of_getElem? (i := 48) rfl)) rfl⟩
def miX11_status : fhMI := (yX11_status, cX11_status, 2, (some .int))
theorem mvX11_status : fhMv miX11_status 1 := ⟨⟨fhm (in_t (in_6 (List.mem_of_getElem? (i := 106) rfl))) rfl, fhm (in_t (in_1 (List.mem_of_getElem? (i := 1) rfl))) rfl, ⟨by decide +kernel, by decide +kernel⟩, by decide +kernel, by decide⟩, fhm (in_t (in_6 (List.mem_of_getElem? (i := 104) rfl))) rfl, fhm (in_t (in_6 (List.mem_of_getElem? (i := 105) rfl))) rfl⟩
def miX12_feed : fhMI := (yX12_feed, cX12_feed, 8, (some .int))
theorem mvX12_feed : fhMv miX12_feed 5 := ⟨⟨fhm (in_t (in_7 (List.mem_of_getElem? (i := 211) rfl))) rfl, fhm (in_t (in_1 (List.mem_of_getElem? (i := 14) rfl))) rfl, ⟨by decide +kernel, by decide +kernel⟩, by decide +kernel, by decide⟩, fhm (in_t (in_7 (List.mem_of_getElem? (i := 209) rfl))) rfl, fhm (in_t (in_7 (List.mem_of_getElem? (i := 210) rfl))) rfl⟩
def miX12_end : fhMI := (yX12_end, cX12_end, 2, (some .boolean))
theorem mvX12_end : fhMv miX12_end 1 := ⟨⟨fhm (in_t (in_7 (List.mem_of_getElem? (i := 215) rfl))) rfl, fhm (in_t (in_1 (List.mem_of_getElem? (i := 14) rfl))) rfl, ⟨by decide +kernel, by decide +kernel⟩, by decide +kernel, by decide⟩, fhm (in_t (in_7 (List.mem_of_getElem? (i := 213) rfl))) rfl, fhm (in_t (in_7 (List.mem_of_getElem? (i := 214) rfl))) rfl⟩
def miX12_parlour : fhMI := (yX12_parlour, cX12_parlour, 2, (some .int))
theorem mvX12_parlour : fhMv miX12_parlour 0 := ⟨⟨fhm (in_t (in_7 (List.mem_of_getElem? (i := 219) rfl))) rfl, fhm (in_t (in_1 (List.mem_of_getElem? (i := 14) rfl))) rfl, ⟨by decide +kernel, by decide +kernel⟩, by decide +kernel, by decide⟩, fhm (in_t (in_7 (List.mem_of_getElem? (i := 217) rfl))) rfl, fhm (in_t (in_7 (List.mem_of_getElem? (i := 218) rfl))) rfl⟩
def miX12_marksTold : fhMI := (yX12_marksTold, cX12_marksTold, 1, none)
theorem mvX12_marksTold : fhMv miX12_marksTold 0 := ⟨⟨fhm (in_t (in_7 (List.mem_of_getElem? (i := 223) rfl))) rfl, fhm (in_t (in_1 (List.mem_of_getElem? (i := 14) rfl))) rfl, ⟨by decide +kernel, by decide +kernel⟩, by decide +kernel, by decide⟩, fhm (in_t (in_7 (List.mem_of_getElem? (i := 222) rfl))) rfl, fhm (List.mem_append_left _ (List.mem_of_getElem? (i := 49) rfl)) rfl⟩
def miX12_asks : fhMI := (yX12_asks, cX12_asks, 2, none)
theorem mvX12_asks : fhMv miX12_asks 1 := ⟨⟨fhm (in_t (in_7 (List.mem_of_getElem? (i := 227) rfl))) rfl, fhm (in_t (in_1 (List.mem_of_getElem? (i := 14) rfl))) rfl, ⟨by decide +kernel, by decide +kernel⟩, by decide +kernel, by decide⟩, fhm (in_t (in_7 (List.mem_of_getElem? (i := 226) rfl))) rfl, fhm (List.mem_append_left _ (List.mem_of_getElem? (i := 50) rfl)) rfl⟩
def miX12_takes : fhMI := (yX12_takes, cX12_takes, 2, (some .boolean))
theorem mvX12_takes : fhMv miX12_takes 1 := ⟨⟨fhm (in_t (in_7 (List.mem_of_getElem? (i := 231) rfl))) rfl, fhm (in_t (in_1 (List.mem_of_getElem? (i := 14) rfl))) rfl, ⟨by decide +kernel, by decide +kernel⟩, by decide +kernel, by decide⟩, fhm (in_t (in_7 (List.mem_of_getElem? (i := 230) rfl))) rfl, fhm (List.mem_append_left _ (List.mem_of_getElem? (i := 51) rfl)) rfl⟩
def miX12_isHere : fhMI := (yX12_isHere, cX12_isHere, 4, (some .boolean))
theorem mvX12_isHere : fhMv miX12_isHere 1 := ⟨⟨fhm (in_t (in_7 (List.mem_of_getElem? (i := 235) rfl))) rfl, fhm (in_t (in_1 (List.mem_of_getElem? (i := 14) rfl))) rfl, ⟨by decide +kernel, by decide +kernel⟩, by decide +kernel, by decide⟩, fhm (in_t (in_7 (List.mem_of_getElem? (i := 234) rfl))) rfl, fhm (List.mem_append_left _ (List.mem_of_getElem? (i := 52) rfl)) rfl⟩
def miX12_look : fhMI := (yX12_look, cX12_look, 1, (some .int))
theorem mvX12_look : fhMv miX12_look 0 := ⟨⟨fhm (in_t (in_7 (List.mem_of_getElem? (i := 239) rfl))) rfl, fhm (in_t (in_1 (List.mem_of_getElem? (i := 14) rfl))) rfl, ⟨by decide +kernel, by decide +kernel⟩, by decide +kernel, by decide⟩, fhm (in_t (in_7 (List.mem_of_getElem? (i := 238) rfl))) rfl, fhm (List.mem_append_left _ (List.mem_of_getElem? (i := 53) rfl)) rfl⟩
def miX12_isLetter : fhMI := (yX12_isLetter, cX12_isLetter, 1, (some .boolean))
theorem msX12_isLetter : fhMs miX12_isLetter 1 := ⟨⟨fhm (in_t (in_8 (List.mem_of_getElem? (i := 2) rfl))) rfl, fhm (in_t (in_1 (List.mem_of_getElem? (i := 14) rfl))) rfl, ⟨by decide +kernel, by decide +kernel⟩, by decide +kernel, by decide⟩, fhm (in_t (in_8 (List.mem_of_getElem? (i := 1) rfl))) rfl⟩
def miX12_fail : fhMI := (yX12_fail, cX12_fail, 3, none)
theorem mvX12_fail : fhMv miX12_fail 2 := ⟨⟨fhm (in_t (in_8 (List.mem_of_getElem? (i := 6) rfl))) rfl, fhm (in_t (in_1 (List.mem_of_getElem? (i := 14) rfl))) rfl, ⟨by decide +kernel, by decide +kernel⟩, by decide +kernel, by decide⟩, fhm (in_t (in_8 (List.mem_of_getElem? (i := 5) rfl))) rfl, fhm (List.mem_append_left _ (List.mem_of_getElem? (i := 54) rfl)) rfl⟩
def miX12_number : fhMI := (yX12_number, cX12_number, 5, (some .int))
theorem mvX12_number : fhMv miX12_number 2 := ⟨⟨fhm (in_t (in_8 (List.mem_of_getElem? (i := 10) rfl))) rfl, fhm (in_t (in_1 (List.mem_of_getElem? (i := 14) rfl))) rfl, ⟨by decide +kernel, by decide +kernel⟩, by decide +kernel, by decide⟩, fhm (in_t (in_8 (List.mem_of_getElem? (i := 9) rfl))) rfl, fhm (List.mem_append_left _ (List.mem_of_getElem? (i := 55) rfl)) rfl⟩
def miX12_isDigit : fhMI := (yX12_isDigit, cX12_isDigit, 1, (some .boolean))
theorem msX12_isDigit : fhMs miX12_isDigit 1 := ⟨⟨fhm (in_t (in_8 (List.mem_of_getElem? (i := 13) rfl))) rfl, fhm (in_t (in_1 (List.mem_of_getElem? (i := 14) rfl))) rfl, ⟨by decide +kernel, by decide +kernel⟩, by decide +kernel, by decide⟩, fhm (in_t (in_8 (List.mem_of_getElem? (i := 12) rfl))) rfl⟩
def miX12_isIn : fhMI := (yX12_isIn, cX12_isIn, 6, (some .boolean))
theorem msX12_isIn : fhMs miX12_isIn 3 := ⟨⟨fhm (in_t (in_8 (List.mem_of_getElem? (i := 16) rfl))) rfl, fhm (in_t (in_1 (List.mem_of_getElem? (i := 14) rfl))) rfl, ⟨by decide +kernel, by decide +kernel⟩, by decide +kernel, by decide⟩, fhm (in_t (in_8 (List.mem_of_getElem? (i := 15) rfl))) rfl⟩
def miX12_asksSign : fhMI := (yX12_asksSign, cX12_asksSign, 2, none)
theorem mvX12_asksSign : fhMv miX12_asksSign 1 := ⟨⟨fhm (in_t (in_8 (List.mem_of_getElem? (i := 20) rfl))) rfl, fhm (in_t (in_1 (List.mem_of_getElem? (i := 14) rfl))) rfl, ⟨by decide +kernel, by decide +kernel⟩, by decide +kernel, by decide⟩, fhm (in_t (in_8 (List.mem_of_getElem? (i := 19) rfl))) rfl, fhm (List.mem_append_left _ (List.mem_of_getElem? (i := 56) rfl)) rfl⟩
def miX12_takesSign : fhMI := (yX12_takesSign, cX12_takesSign, 2, (some .boolean))
theorem mvX12_takesSign : fhMv miX12_takesSign 1 := ⟨⟨fhm (in_t (in_8 (List.mem_of_getElem? (i := 24) rfl))) rfl, fhm (in_t (in_1 (List.mem_of_getElem? (i := 14) rfl))) rfl, ⟨by decide +kernel, by decide +kernel⟩, by decide +kernel, by decide⟩, fhm (in_t (in_8 (List.mem_of_getElem? (i := 23) rfl))) rfl, fhm (List.mem_append_left _ (List.mem_of_getElem? (i := 57) rfl)) rfl⟩
def miX12_statementTold : fhMI := (yX12_statementTold, cX12_statementTold, 2, none)
theorem mvX12_statementTold : fhMv miX12_statementTold 0 := ⟨⟨fhm (in_t (in_8 (List.mem_of_getElem? (i := 28) rfl))) rfl, fhm (in_t (in_1 (List.mem_of_getElem? (i := 14) rfl))) rfl, ⟨by decide +kernel, by decide +kernel⟩, by decide +kernel, by decide⟩, fhm (in_t (in_8 (List.mem_of_getElem? (i := 27) rfl))) rfl, fhm (List.mem_append_left _ (List.mem_of_getElem? (i := 58) rfl)) rfl⟩
def miX12_guestTold : fhMI := (yX12_guestTold, cX12_guestTold, 5, none)
theorem mvX12_guestTold : fhMv miX12_guestTold 1 := ⟨⟨fhm (in_t (in_8 (List.mem_of_getElem? (i := 32) rfl))) rfl, fhm (in_t (in_1 (List.mem_of_getElem? (i := 14) rfl))) rfl, ⟨by decide +kernel, by decide +kernel⟩, by decide +kernel, by decide⟩, fhm (in_t (in_8 (List.mem_of_getElem? (i := 31) rfl))) rfl, fhm (List.mem_append_left _ (List.mem_of_getElem? (i := 59) rfl)) rfl⟩
def miX12_isFull : fhMI := (yX12_isFull, cX12_isFull, 4, (some .boolean))
theorem mvX12_isFull : fhMv miX12_isFull 3 := ⟨⟨fhm (in_t (in_8 (List.mem_of_getElem? (i := 36) rfl))) rfl, fhm (in_t (in_1 (List.mem_of_getElem? (i := 14) rfl))) rfl, ⟨by decide +kernel, by decide +kernel⟩, by decide +kernel, by decide⟩, fhm (in_t (in_8 (List.mem_of_getElem? (i := 35) rfl))) rfl, fhm (List.mem_append_left _ (List.mem_of_getElem? (i := 60) rfl)) rfl⟩
def miX12_name : fhMI := (yX12_name, cX12_name, 3, (some .long))
theorem mvX12_name : fhMv miX12_name 0 := ⟨⟨fhm (in_t (in_8 (List.mem_of_getElem? (i := 40) rfl))) rfl, fhm (in_t (in_1 (List.mem_of_getElem? (i := 14) rfl))) rfl, ⟨by decide +kernel, by decide +kernel⟩, by decide +kernel, by decide⟩, fhm (in_t (in_8 (List.mem_of_getElem? (i := 39) rfl))) rfl, fhm (List.mem_append_left _ (List.mem_of_getElem? (i := 61) rfl)) rfl⟩
def miX12_isOwnHere : fhMI := (yX12_isOwnHere, cX12_isOwnHere, 2, (some .boolean))
theorem mvX12_isOwnHere : fhMv miX12_isOwnHere 0 := ⟨⟨fhm (in_t (in_8 (List.mem_of_getElem? (i := 44) rfl))) rfl, fhm (in_t (in_1 (List.mem_of_getElem? (i := 14) rfl))) rfl, ⟨by decide +kernel, by decide +kernel⟩, by decide +kernel, by decide⟩, fhm (in_t (in_8 (List.mem_of_getElem? (i := 43) rfl))) rfl, fhm (List.mem_append_left _ (List.mem_of_getElem? (i := 62) rfl)) rfl⟩
def miX12_blindTold : fhMI := (yX12_blindTold, cX12_blindTold, 3, none)
theorem mvX12_blindTold : fhMv miX12_blindTold 0 := ⟨⟨fhm (in_t (in_8 (List.mem_of_getElem? (i := 50) rfl))) rfl, fhm (in_t (in_1 (List.mem_of_getElem? (i := 14) rfl))) rfl, ⟨by decide +kernel, by decide +kernel⟩, by decide +kernel, by decide⟩, fhm (in_t (in_8 (List.mem_of_getElem? (i := 49) rfl))) rfl, fhm (List.mem_append_left _ (List.mem_of_getElem? (i := 63) rfl)) rfl⟩
def miX12_guestNamed : fhMI := (yX12_guestNamed, cX12_guestNamed, 4, (some .int))
theorem mvX12_guestNamed : fhMv miX12_guestNamed 0 := ⟨⟨fhm (in_t (in_8 (List.mem_of_getElem? (i := 54) rfl))) rfl, fhm (in_t (in_1 (List.mem_of_getElem? (i := 14) rfl))) rfl, ⟨by decide +kernel, by decide +kernel⟩, by decide +kernel, by decide⟩, fhm (in_t (in_8 (List.mem_of_getElem? (i := 53) rfl))) rfl, fhm (List.mem_append_left _ (List.mem_of_getElem? (i := 64) rfl)) rfl⟩
def miX12_testTold : fhMI := (yX12_testTold, cX12_testTold, 6, none)
theorem mvX12_testTold : fhMv miX12_testTold 3 := ⟨⟨fhm (in_t (in_8 (List.mem_of_getElem? (i := 58) rfl))) rfl, fhm (in_t (in_1 (List.mem_of_getElem? (i := 14) rfl))) rfl, ⟨by decide +kernel, by decide +kernel⟩, by decide +kernel, by decide⟩, fhm (in_t (in_8 (List.mem_of_getElem? (i := 57) rfl))) rfl, fhm (List.mem_append_left _ (List.mem_of_getElem? (i := 65) rfl)) rfl⟩
def miX12_qTest : fhMI := (yX12_qTest, cX12_qTest, 3, none)
theorem mvX12_qTest : fhMv miX12_qTest 0 := ⟨⟨fhm (in_t (in_8 (List.mem_of_getElem? (i := 62) rfl))) rfl, fhm (in_t (in_1 (List.mem_of_getElem? (i := 14) rfl))) rfl, ⟨by decide +kernel, by decide +kernel⟩, by decide +kernel, by decide⟩, fhm (in_t (in_8 (List.mem_of_getElem? (i := 61) rfl))) rfl, fhm (List.mem_append_left _ (List.mem_of_getElem? (i := 66) rfl)) rfl⟩
def miX12_qOpens : fhMI := (yX12_qOpens, cX12_qOpens, 3, none)
theorem mvX12_qOpens : fhMv miX12_qOpens 2 := ⟨⟨fhm (in_t (in_8 (List.mem_of_getElem? (i := 66) rfl))) rfl, fhm (in_t (in_1 (List.mem_of_getElem? (i := 14) rfl))) rfl, ⟨by decide +kernel, by decide +kernel⟩, by decide +kernel, by decide⟩, fhm (in_t (in_8 (List.mem_of_getElem? (i := 65) rfl))) rfl, fhm (List.mem_append_left _ (List.mem_of_getElem? (i := 67) rfl)) rfl⟩
def miX12_qFact : fhMI := (yX12_qFact, cX12_qFact, 2, none)
theorem mvX12_qFact : fhMv miX12_qFact 0 := ⟨⟨fhm (in_t (in_8 (List.mem_of_getElem? (i := 70) rfl))) rfl, fhm (in_t (in_1 (List.mem_of_getElem? (i := 14) rfl))) rfl, ⟨by decide +kernel, by decide +kernel⟩, by decide +kernel, by decide⟩, fhm (in_t (in_8 (List.mem_of_getElem? (i := 69) rfl))) rfl, fhm (List.mem_append_left _ (List.mem_of_getElem? (i := 68) rfl)) rfl⟩
def miX12_qCode : fhMI := (yX12_qCode, cX12_qCode, 2, none)
theorem mvX12_qCode : fhMv miX12_qCode 1 := ⟨⟨fhm (in_t (in_8 (List.mem_of_getElem? (i := 74) rfl))) rfl, fhm (in_t (in_1 (List.mem_of_getElem? (i := 14) rfl))) rfl, ⟨by decide +kernel, by decide +kernel⟩, by decide +kernel, by decide⟩, fhm (in_t (in_8 (List.mem_of_getElem? (i := 73) rfl))) rfl, fhm (List.mem_append_left _ (List.mem_of_getElem? (i := 69) rfl)) rfl⟩
def miX12_qSums : fhMI := (yX12_qSums, cX12_qSums, 3, none)
theorem mvX12_qSums : fhMv miX12_qSums 0 := ⟨⟨fhm (in_t (in_8 (List.mem_of_getElem? (i := 78) rfl))) rfl, fhm (in_t (in_1 (List.mem_of_getElem? (i := 14) rfl))) rfl, ⟨by decide +kernel, by decide +kernel⟩, by decide +kernel, by decide⟩, fhm (in_t (in_8 (List.mem_of_getElem? (i := 77) rfl))) rfl, fhm (List.mem_append_left _ (List.mem_of_getElem? (i := 70) rfl)) rfl⟩
def miX12_qPartTold : fhMI := (yX12_qPartTold, cX12_qPartTold, 6, none)
theorem mvX12_qPartTold : fhMv miX12_qPartTold 0 := ⟨⟨fhm (in_t (in_8 (List.mem_of_getElem? (i := 82) rfl))) rfl, fhm (in_t (in_1 (List.mem_of_getElem? (i := 14) rfl))) rfl, ⟨by decide +kernel, by decide +kernel⟩, by decide +kernel, by decide⟩, fhm (in_t (in_8 (List.mem_of_getElem? (i := 81) rfl))) rfl, fhm (List.mem_append_left _ (List.mem_of_getElem? (i := 71) rfl)) rfl⟩
def miX12_qWordOf : fhMI := (yX12_qWordOf, cX12_qWordOf, 4, (some .int))
theorem mvX12_qWordOf : fhMv miX12_qWordOf 2 := ⟨⟨fhm (in_t (in_8 (List.mem_of_getElem? (i := 86) rfl))) rfl, fhm (in_t (in_1 (List.mem_of_getElem? (i := 14) rfl))) rfl, ⟨by decide +kernel, by decide +kernel⟩, by decide +kernel, by decide⟩, fhm (in_t (in_8 (List.mem_of_getElem? (i := 85) rfl))) rfl, fhm (List.mem_append_left _ (List.mem_of_getElem? (i := 72) rfl)) rfl⟩
def miX12_qWordHere : fhMI := (yX12_qWordHere, cX12_qWordHere, 1, (some .int))
theorem mvX12_qWordHere : fhMv miX12_qWordHere 0 := ⟨⟨fhm (in_t (in_8 (List.mem_of_getElem? (i := 90) rfl))) rfl, fhm (in_t (in_1 (List.mem_of_getElem? (i := 14) rfl))) rfl, ⟨by decide +kernel, by decide +kernel⟩, by decide +kernel, by decide⟩, fhm (in_t (in_8 (List.mem_of_getElem? (i := 89) rfl))) rfl, fhm (List.mem_append_left _ (List.mem_of_getElem? (i := 73) rfl)) rfl⟩
def miX12_isAllowed : fhMI := (yX12_isAllowed, cX12_isAllowed, 2, (some .boolean))
theorem mvX12_isAllowed : fhMv miX12_isAllowed 1 := ⟨⟨fhm (in_t (in_8 (List.mem_of_getElem? (i := 94) rfl))) rfl, fhm (in_t (in_1 (List.mem_of_getElem? (i := 14) rfl))) rfl, ⟨by decide +kernel, by decide +kernel⟩, by decide +kernel, by decide⟩, fhm (in_t (in_8 (List.mem_of_getElem? (i := 93) rfl))) rfl, fhm (List.mem_append_left _ (List.mem_of_getElem? (i := 74) rfl)) rfl⟩
def miX12_qAsksWord : fhMI := (yX12_qAsksWord, cX12_qAsksWord, 2, none)
theorem mvX12_qAsksWord : fhMv miX12_qAsksWord 1 := ⟨⟨fhm (in_t (in_8 (List.mem_of_getElem? (i := 100) rfl))) rfl, fhm (in_t (in_1 (List.mem_of_getElem? (i := 14) rfl))) rfl, ⟨by decide +kernel, by decide +kernel⟩, by decide +kernel, by decide⟩, fhm (in_t (in_8 (List.mem_of_getElem? (i := 99) rfl))) rfl, fhm (List.mem_append_left _ (List.mem_of_getElem? (i := 75) rfl)) rfl⟩
def miX12_guestHere : fhMI := (yX12_guestHere, cX12_guestHere, 5, (some .int))
theorem mvX12_guestHere : fhMv miX12_guestHere 0 := ⟨⟨fhm (in_t (in_8 (List.mem_of_getElem? (i := 104) rfl))) rfl, fhm (in_t (in_1 (List.mem_of_getElem? (i := 14) rfl))) rfl, ⟨by decide +kernel, by decide +kernel⟩, by decide +kernel, by decide⟩, fhm (in_t (in_8 (List.mem_of_getElem? (i := 103) rfl))) rfl, fhm (List.mem_append_left _ (List.mem_of_getElem? (i := 76) rfl)) rfl⟩
def miX12_qEndsPart : fhMI := (yX12_qEndsPart, cX12_qEndsPart, 1, none)
theorem mvX12_qEndsPart : fhMv miX12_qEndsPart 0 := ⟨⟨fhm (in_t (in_8 (List.mem_of_getElem? (i := 108) rfl))) rfl, fhm (in_t (in_1 (List.mem_of_getElem? (i := 14) rfl))) rfl, ⟨by decide +kernel, by decide +kernel⟩, by decide +kernel, by decide⟩, fhm (in_t (in_8 (List.mem_of_getElem? (i := 107) rfl))) rfl, fhm (List.mem_append_left _ (List.mem_of_getElem? (i := 77) rfl)) rfl⟩
def miX12_qDrops : fhMI := (yX12_qDrops, cX12_qDrops, 1, none)
theorem mvX12_qDrops : fhMv miX12_qDrops 0 := ⟨⟨fhm (in_t (in_8 (List.mem_of_getElem? (i := 112) rfl))) rfl, fhm (in_t (in_1 (List.mem_of_getElem? (i := 14) rfl))) rfl, ⟨by decide +kernel, by decide +kernel⟩, by decide +kernel, by decide⟩, fhm (in_t (in_8 (List.mem_of_getElem? (i := 111) rfl))) rfl, fhm (List.mem_append_left _ (List.mem_of_getElem? (i := 78) rfl)) rfl⟩
def miX12_qGoesOn : fhMI := (yX12_qGoesOn, cX12_qGoesOn, 2, (some .boolean))
theorem mvX12_qGoesOn : fhMv miX12_qGoesOn 0 := ⟨⟨fhm (in_t (in_8 (List.mem_of_getElem? (i := 116) rfl))) rfl, fhm (in_t (in_1 (List.mem_of_getElem? (i := 14) rfl))) rfl, ⟨by decide +kernel, by decide +kernel⟩, by decide +kernel, by decide⟩, fhm (in_t (in_8 (List.mem_of_getElem? (i := 115) rfl))) rfl, fhm (List.mem_append_left _ (List.mem_of_getElem? (i := 79) rfl)) rfl⟩
def miX12_qBracket : fhMI := (yX12_qBracket, cX12_qBracket, 2, (some .int))
theorem mvX12_qBracket : fhMv miX12_qBracket 0 := ⟨⟨fhm (in_t (in_8 (List.mem_of_getElem? (i := 120) rfl))) rfl, fhm (in_t (in_1 (List.mem_of_getElem? (i := 14) rfl))) rfl, ⟨by decide +kernel, by decide +kernel⟩, by decide +kernel, by decide⟩, fhm (in_t (in_8 (List.mem_of_getElem? (i := 119) rfl))) rfl, fhm (List.mem_append_left _ (List.mem_of_getElem? (i := 80) rfl)) rfl⟩
def miX12_qIsBracket : fhMI := (yX12_qIsBracket, cX12_qIsBracket, 1, (some .boolean))
theorem msX12_qIsBracket : fhMs miX12_qIsBracket 1 := ⟨⟨fhm (in_t (in_8 (List.mem_of_getElem? (i := 123) rfl))) rfl, fhm (in_t (in_1 (List.mem_of_getElem? (i := 14) rfl))) rfl, ⟨by decide +kernel, by decide +kernel⟩, by decide +kernel, by decide⟩, fhm (in_t (in_8 (List.mem_of_getElem? (i := 122) rfl))) rfl⟩
def miX12_qDropsToBracket : fhMI := (yX12_qDropsToBracket, cX12_qDropsToBracket, 1, none)
theorem mvX12_qDropsToBracket : fhMv miX12_qDropsToBracket 0 := ⟨⟨fhm (in_t (in_8 (List.mem_of_getElem? (i := 127) rfl))) rfl, fhm (in_t (in_1 (List.mem_of_getElem? (i := 14) rfl))) rfl, ⟨by decide +kernel, by decide +kernel⟩, by decide +kernel, by decide⟩, fhm (in_t (in_8 (List.mem_of_getElem? (i := 126) rfl))) rfl, fhm (List.mem_append_left _ (List.mem_of_getElem? (i := 81) rfl)) rfl⟩
def miX12_qIsOn : fhMI := (yX12_qIsOn, cX12_qIsOn, 2, (some .boolean))
theorem mvX12_qIsOn : fhMv miX12_qIsOn 1 := ⟨⟨fhm (in_t (in_8 (List.mem_of_getElem? (i := 131) rfl))) rfl, fhm (in_t (in_1 (List.mem_of_getElem? (i := 14) rfl))) rfl, ⟨by decide +kernel, by decide +kernel⟩, by decide +kernel, by decide⟩, fhm (in_t (in_8 (List.mem_of_getElem? (i := 130) rfl))) rfl, fhm (List.mem_append_left _ (List.mem_of_getElem? (i := 82) rfl)) rfl⟩
def miX12_qDropsNots : fhMI := (yX12_qDropsNots, cX12_qDropsNots, 1, none)
theorem mvX12_qDropsNots : fhMv miX12_qDropsNots 0 := ⟨⟨fhm (in_t (in_8 (List.mem_of_getElem? (i := 135) rfl))) rfl, fhm (in_t (in_1 (List.mem_of_getElem? (i := 14) rfl))) rfl, ⟨by decide +kernel, by decide +kernel⟩, by decide +kernel, by decide⟩, fhm (in_t (in_8 (List.mem_of_getElem? (i := 134) rfl))) rfl, fhm (List.mem_append_left _ (List.mem_of_getElem? (i := 83) rfl)) rfl⟩
def miX12_qGoesOnTest : fhMI := (yX12_qGoesOnTest, cX12_qGoesOnTest, 1, (some .boolean))
theorem mvX12_qGoesOnTest : fhMv miX12_qGoesOnTest 0 := ⟨⟨fhm (in_t (in_8 (List.mem_of_getElem? (i := 139) rfl))) rfl, fhm (in_t (in_1 (List.mem_of_getElem? (i := 14) rfl))) rfl, ⟨by decide +kernel, by decide +kernel⟩, by decide +kernel, by decide⟩, fhm (in_t (in_8 (List.mem_of_getElem? (i := 138) rfl))) rfl, fhm (List.mem_append_left _ (List.mem_of_getElem? (i := 84) rfl)) rfl⟩
def miX12_qHasSquare : fhMI := (yX12_qHasSquare, cX12_qHasSquare, 2, (some .boolean))
theorem mvX12_qHasSquare : fhMv miX12_qHasSquare 0 := ⟨⟨fhm (in_t (in_8 (List.mem_of_getElem? (i := 143) rfl))) rfl, fhm (in_t (in_1 (List.mem_of_getElem? (i := 14) rfl))) rfl, ⟨by decide +kernel, by decide +kernel⟩, by decide +kernel, by decide⟩, fhm (in_t (in_8 (List.mem_of_getElem? (i := 142) rfl))) rfl, fhm (List.mem_append_left _ (List.mem_of_getElem? (i := 85) rfl)) rfl⟩
def miX12_rulesHold : fhMI := (yX12_rulesHold, cX12_rulesHold, 2, none)
theorem mvX12_rulesHold : fhMv miX12_rulesHold 0 := ⟨⟨fhm (in_t (in_8 (List.mem_of_getElem? (i := 147) rfl))) rfl, fhm (in_t (in_1 (List.mem_of_getElem? (i := 14) rfl))) rfl, ⟨by decide +kernel, by decide +kernel⟩, by decide +kernel, by decide⟩, fhm (in_t (in_8 (List.mem_of_getElem? (i := 146) rfl))) rfl, fhm (List.mem_append_left _ (List.mem_of_getElem? (i := 86) rfl)) rfl⟩
def miX12_loadsTest : fhMI := (yX12_loadsTest, cX12_loadsTest, 3, none)
theorem mvX12_loadsTest : fhMv miX12_loadsTest 1 := ⟨⟨fhm (in_t (in_8 (List.mem_of_getElem? (i := 151) rfl))) rfl, fhm (in_t (in_1 (List.mem_of_getElem? (i := 14) rfl))) rfl, ⟨by decide +kernel, by decide +kernel⟩, by decide +kernel, by decide⟩, fhm (in_t (in_8 (List.mem_of_getElem? (i := 150) rfl))) rfl, fhm (List.mem_append_left _ (List.mem_of_getElem? (i := 87) rfl)) rfl⟩
def miX12_wornRow : fhMI := (yX12_wornRow, cX12_wornRow, 3, (some .int))
theorem mvX12_wornRow : fhMv miX12_wornRow 0 := ⟨⟨fhm (in_t (in_8 (List.mem_of_getElem? (i := 155) rfl))) rfl, fhm (in_t (in_1 (List.mem_of_getElem? (i := 14) rfl))) rfl, ⟨by decide +kernel, by decide +kernel⟩, by decide +kernel, by decide⟩, fhm (in_t (in_8 (List.mem_of_getElem? (i := 154) rfl))) rfl, fhm (List.mem_append_left _ (List.mem_of_getElem? (i := 88) rfl)) rfl⟩
def miX12_laysRow : fhMI := (yX12_laysRow, cX12_laysRow, 6, none)
theorem mvX12_laysRow : fhMv miX12_laysRow 3 := ⟨⟨fhm (in_t (in_8 (List.mem_of_getElem? (i := 159) rfl))) rfl, fhm (in_t (in_1 (List.mem_of_getElem? (i := 14) rfl))) rfl, ⟨by decide +kernel, by decide +kernel⟩, by decide +kernel, by decide⟩, fhm (in_t (in_8 (List.mem_of_getElem? (i := 158) rfl))) rfl, fhm (List.mem_append_left _ (List.mem_of_getElem? (i := 89) rfl)) rfl⟩
def miX12_qTold : fhMI := (yX12_qTold, cX12_qTold, 4, (some .long))
theorem mvX12_qTold : fhMv miX12_qTold 1 := ⟨⟨fhm (in_t (in_8 (List.mem_of_getElem? (i := 163) rfl))) rfl, fhm (in_t (in_1 (List.mem_of_getElem? (i := 14) rfl))) rfl, ⟨by decide +kernel, by decide +kernel⟩, by decide +kernel, by decide⟩, fhm (in_t (in_8 (List.mem_of_getElem? (i := 162) rfl))) rfl, fhm (List.mem_append_left _ (List.mem_of_getElem? (i := 90) rfl)) rfl⟩
def miX12_qPuts : fhMI := (yX12_qPuts, cX12_qPuts, 3, none)
theorem mvX12_qPuts : fhMv miX12_qPuts 1 := ⟨⟨fhm (in_t (in_8 (List.mem_of_getElem? (i := 167) rfl))) rfl, fhm (in_t (in_1 (List.mem_of_getElem? (i := 14) rfl))) rfl, ⟨by decide +kernel, by decide +kernel⟩, by decide +kernel, by decide⟩, fhm (in_t (in_8 (List.mem_of_getElem? (i := 166) rfl))) rfl, fhm (List.mem_append_left _ (List.mem_of_getElem? (i := 91) rfl)) rfl⟩
def miX12_qOf : fhMI := (yX12_qOf, cX12_qOf, 5, (some .long))
theorem mvX12_qOf : fhMv miX12_qOf 3 := ⟨⟨fhm (in_t (in_8 (List.mem_of_getElem? (i := 171) rfl))) rfl, fhm (in_t (in_1 (List.mem_of_getElem? (i := 14) rfl))) rfl, ⟨by decide +kernel, by decide +kernel⟩, by decide +kernel, by decide⟩, fhm (in_t (in_8 (List.mem_of_getElem? (i := 170) rfl))) rfl, fhm (List.mem_append_left _ (List.mem_of_getElem? (i := 92) rfl)) rfl⟩
def miX12_countOf : fhMI := (yX12_countOf, cX12_countOf, 5, (some .int))
theorem mvX12_countOf : fhMv miX12_countOf 1 := ⟨⟨fhm (in_t (in_8 (List.mem_of_getElem? (i := 175) rfl))) rfl, fhm (in_t (in_1 (List.mem_of_getElem? (i := 14) rfl))) rfl, ⟨by decide +kernel, by decide +kernel⟩, by decide +kernel, by decide⟩, fhm (in_t (in_8 (List.mem_of_getElem? (i := 174) rfl))) rfl, fhm (List.mem_append_left _ (List.mem_of_getElem? (i := 93) rfl)) rfl⟩
def miX12_isGuest : fhMI := (yX12_isGuest, cX12_isGuest, 3, (some .boolean))
theorem mvX12_isGuest : fhMv miX12_isGuest 1 := ⟨⟨fhm (in_t (in_8 (List.mem_of_getElem? (i := 179) rfl))) rfl, fhm (in_t (in_1 (List.mem_of_getElem? (i := 14) rfl))) rfl, ⟨by decide +kernel, by decide +kernel⟩, by decide +kernel, by decide⟩, fhm (in_t (in_8 (List.mem_of_getElem? (i := 178) rfl))) rfl, fhm (List.mem_append_left _ (List.mem_of_getElem? (i := 94) rfl)) rfl⟩
def miX12_guestMany : fhMI := (yX12_guestMany, cX12_guestMany, 1, (some .int))
theorem mvX12_guestMany : fhMv miX12_guestMany 0 := ⟨⟨fhm (in_t (in_8 (List.mem_of_getElem? (i := 183) rfl))) rfl, fhm (in_t (in_1 (List.mem_of_getElem? (i := 14) rfl))) rfl, ⟨by decide +kernel, by decide +kernel⟩, by decide +kernel, by decide⟩, fhm (in_t (in_8 (List.mem_of_getElem? (i := 182) rfl))) rfl, fhm (List.mem_append_left _ (List.mem_of_getElem? (i := 95) rfl)) rfl⟩
def miX12_markMany : fhMI := (yX12_markMany, cX12_markMany, 1, (some .int))
theorem mvX12_markMany : fhMv miX12_markMany 0 := ⟨⟨fhm (in_t (in_8 (List.mem_of_getElem? (i := 187) rfl))) rfl, fhm (in_t (in_1 (List.mem_of_getElem? (i := 14) rfl))) rfl, ⟨by decide +kernel, by decide +kernel⟩, by decide +kernel, by decide⟩, fhm (in_t (in_8 (List.mem_of_getElem? (i := 186) rfl))) rfl, fhm (List.mem_append_left _ (List.mem_of_getElem? (i := 96) rfl)) rfl⟩
def miX12_qClip : fhMI := (yX12_qClip, cX12_qClip, 2, (some .long))
theorem msX12_qClip : fhMs miX12_qClip 1 := ⟨⟨fhm (in_t (in_8 (List.mem_of_getElem? (i := 190) rfl))) rfl, fhm (in_t (in_1 (List.mem_of_getElem? (i := 14) rfl))) rfl, ⟨by decide +kernel, by decide +kernel⟩, by decide +kernel, by decide⟩, fhm (in_t (in_8 (List.mem_of_getElem? (i := 189) rfl))) rfl⟩
def miX12_qPartOf : fhMI := (yX12_qPartOf, cX12_qPartOf, 3, (some .long))
theorem mvX12_qPartOf : fhMv miX12_qPartOf 2 := ⟨⟨fhm (in_t (in_8 (List.mem_of_getElem? (i := 196) rfl))) rfl, fhm (in_t (in_1 (List.mem_of_getElem? (i := 14) rfl))) rfl, ⟨by decide +kernel, by decide +kernel⟩, by decide +kernel, by decide⟩, fhm (in_t (in_8 (List.mem_of_getElem? (i := 195) rfl))) rfl, fhm (List.mem_append_left _ (List.mem_of_getElem? (i := 97) rfl)) rfl⟩
def miX12_rowSum : fhMI := (yX12_rowSum, cX12_rowSum, 3, (some .int))
theorem mvX12_rowSum : fhMv miX12_rowSum 0 := ⟨⟨fhm (in_t (in_8 (List.mem_of_getElem? (i := 200) rfl))) rfl, fhm (in_t (in_1 (List.mem_of_getElem? (i := 14) rfl))) rfl, ⟨by decide +kernel, by decide +kernel⟩, by decide +kernel, by decide⟩, fhm (in_t (in_8 (List.mem_of_getElem? (i := 199) rfl))) rfl, fhm (List.mem_append_left _ (List.mem_of_getElem? (i := 98) rfl)) rfl⟩
def miX12_rowTop : fhMI := (yX12_rowTop, cX12_rowTop, 3, (some .int))
theorem mvX12_rowTop : fhMv miX12_rowTop 0 := ⟨⟨fhm (in_t (in_8 (List.mem_of_getElem? (i := 204) rfl))) rfl, fhm (in_t (in_1 (List.mem_of_getElem? (i := 14) rfl))) rfl, ⟨by decide +kernel, by decide +kernel⟩, by decide +kernel, by decide⟩, fhm (in_t (in_8 (List.mem_of_getElem? (i := 203) rfl))) rfl, fhm (List.mem_append_left _ (List.mem_of_getElem? (i := 99) rfl)) rfl⟩
def miX12_rowLow : fhMI := (yX12_rowLow, cX12_rowLow, 3, (some .int))
theorem mvX12_rowLow : fhMv miX12_rowLow 0 := ⟨⟨fhm (in_t (in_8 (List.mem_of_getElem? (i := 208) rfl))) rfl, fhm (in_t (in_1 (List.mem_of_getElem? (i := 14) rfl))) rfl, ⟨by decide +kernel, by decide +kernel⟩, by decide +kernel, by decide⟩, fhm (in_t (in_8 (List.mem_of_getElem? (i := 207) rfl))) rfl, fhm (List.mem_append_left _ (List.mem_of_getElem? (i := 100) rfl)) rfl⟩
def miX12_rowKinds : fhMI := (yX12_rowKinds, cX12_rowKinds, 3, (some .int))
theorem mvX12_rowKinds : fhMv miX12_rowKinds 0 := ⟨⟨fhm (in_t (in_8 (List.mem_of_getElem? (i := 212) rfl))) rfl, fhm (in_t (in_1 (List.mem_of_getElem? (i := 14) rfl))) rfl, ⟨by decide +kernel, by decide +kernel⟩, by decide +kernel, by decide⟩, fhm (in_t (in_8 (List.mem_of_getElem? (i := 211) rfl))) rfl, fhm (List.mem_append_left _ (List.mem_of_getElem? (i := 101) rfl)) rfl⟩
def miX12_markOf : fhMI := (yX12_markOf, cX12_markOf, 5, (some .int))
theorem mvX12_markOf : fhMv miX12_markOf 2 := ⟨⟨fhm (in_t (in_8 (List.mem_of_getElem? (i := 216) rfl))) rfl, fhm (in_t (in_1 (List.mem_of_getElem? (i := 14) rfl))) rfl, ⟨by decide +kernel, by decide +kernel⟩, by decide +kernel, by decide⟩, fhm (in_t (in_8 (List.mem_of_getElem? (i := 215) rfl))) rfl, fhm (List.mem_append_left _ (List.mem_of_getElem? (i := 102) rfl)) rfl⟩
def miX12_isOne : fhMI := (yX12_isOne, cX12_isOne, 1, (some .boolean))
theorem msX12_isOne : fhMs miX12_isOne 1 := ⟨⟨fhm (in_t (in_8 (List.mem_of_getElem? (i := 219) rfl))) rfl, fhm (in_t (in_1 (List.mem_of_getElem? (i := 14) rfl))) rfl, ⟨by decide +kernel, by decide +kernel⟩, by decide +kernel, by decide⟩, fhm (in_t (in_8 (List.mem_of_getElem? (i := 218) rfl))) rfl⟩
def miX12_qJoins : fhMI := (yX12_qJoins, cX12_qJoins, 6, none)
theorem mvX12_qJoins : fhMv miX12_qJoins 1 := ⟨⟨fhm (in_t (in_8 (List.mem_of_getElem? (i := 223) rfl))) rfl, fhm (in_t (in_1 (List.mem_of_getElem? (i := 14) rfl))) rfl, ⟨by decide +kernel, by decide +kernel⟩, by decide +kernel, by decide⟩, fhm (in_t (in_8 (List.mem_of_getElem? (i := 222) rfl))) rfl, fhm (List.mem_append_left _ (List.mem_of_getElem? (i := 103) rfl)) rfl⟩
def miX12_qFloor : fhMI := (yX12_qFloor, cX12_qFloor, 6, (some .long))
theorem msX12_qFloor : fhMs miX12_qFloor 2 := ⟨⟨fhm (in_t (in_8 (List.mem_of_getElem? (i := 226) rfl))) rfl, fhm (in_t (in_1 (List.mem_of_getElem? (i := 14) rfl))) rfl, ⟨by decide +kernel, by decide +kernel⟩, by decide +kernel, by decide⟩, fhm (in_t (in_8 (List.mem_of_getElem? (i := 225) rfl))) rfl⟩
def miX12_refuses : fhMI := (yX12_refuses, cX12_refuses, 2, (some .int))
theorem mvX12_refuses : fhMv miX12_refuses 1 := ⟨⟨fhm (in_t (in_8 (List.mem_of_getElem? (i := 230) rfl))) rfl, fhm (in_t (in_1 (List.mem_of_getElem? (i := 14) rfl))) rfl, ⟨by decide +kernel, by decide +kernel⟩, by decide +kernel, by decide⟩, fhm (in_t (in_8 (List.mem_of_getElem? (i := 229) rfl))) rfl, fhm (List.mem_append_left _ (List.mem_of_getElem? (i := 104) rfl)) rfl⟩
def miX12_stands : fhMI := (yX12_stands, cX12_stands, 2, none)
theorem mvX12_stands : fhMv miX12_stands 0 := ⟨⟨fhm (in_t (in_8 (List.mem_of_getElem? (i := 234) rfl))) rfl, fhm (in_t (in_1 (List.mem_of_getElem? (i := 14) rfl))) rfl, ⟨by decide +kernel, by decide +kernel⟩, by decide +kernel, by decide⟩, fhm (in_t (in_8 (List.mem_of_getElem? (i := 233) rfl))) rfl, fhm (List.mem_append_left _ (List.mem_of_getElem? (i := 105) rfl)) rfl⟩
def miX12_laysTests : fhMI := (yX12_laysTests, cX12_laysTests, 4, none)
theorem mvX12_laysTests : fhMv miX12_laysTests 0 := ⟨⟨fhm (in_t (in_8 (List.mem_of_getElem? (i := 238) rfl))) rfl, fhm (in_t (in_1 (List.mem_of_getElem? (i := 14) rfl))) rfl, ⟨by decide +kernel, by decide +kernel⟩, by decide +kernel, by decide⟩, fhm (in_t (in_8 (List.mem_of_getElem? (i := 237) rfl))) rfl, fhm (List.mem_append_left _ (List.mem_of_getElem? (i := 106) rfl)) rfl⟩
def miX12_keyOf : fhMI := (yX12_keyOf, cX12_keyOf, 5, (some .int))
theorem mvX12_keyOf : fhMv miX12_keyOf 2 := ⟨⟨fhm (in_t (in_9 (List.mem_of_getElem? (i := 2) rfl))) rfl, fhm (in_t (in_1 (List.mem_of_getElem? (i := 14) rfl))) rfl, ⟨by decide +kernel, by decide +kernel⟩, by decide +kernel, by decide⟩, fhm (in_t (in_9 (List.mem_of_getElem? (i := 1) rfl))) rfl, fhm (List.mem_append_left _ (List.mem_of_getElem? (i := 107) rfl)) rfl⟩
def miX12_laysAnew : fhMI := (yX12_laysAnew, cX12_laysAnew, 2, none)
theorem mvX12_laysAnew : fhMv miX12_laysAnew 0 := ⟨⟨fhm (in_t (in_9 (List.mem_of_getElem? (i := 6) rfl))) rfl, fhm (in_t (in_1 (List.mem_of_getElem? (i := 14) rfl))) rfl, ⟨by decide +kernel, by decide +kernel⟩, by decide +kernel, by decide⟩, fhm (in_t (in_9 (List.mem_of_getElem? (i := 5) rfl))) rfl, fhm (List.mem_append_left _ (List.mem_of_getElem? (i := 108) rfl)) rfl⟩
def miX12_laysGroups : fhMI := (yX12_laysGroups, cX12_laysGroups, 4, none)
theorem mvX12_laysGroups : fhMv miX12_laysGroups 0 := ⟨⟨fhm (in_t (in_9 (List.mem_of_getElem? (i := 10) rfl))) rfl, fhm (in_t (in_1 (List.mem_of_getElem? (i := 14) rfl))) rfl, ⟨by decide +kernel, by decide +kernel⟩, by decide +kernel, by decide⟩, fhm (in_t (in_9 (List.mem_of_getElem? (i := 9) rfl))) rfl, fhm (List.mem_append_left _ (List.mem_of_getElem? (i := 109) rfl)) rfl⟩
def miX12_laysRound : fhMI := (yX12_laysRound, cX12_laysRound, 4, none)
theorem mvX12_laysRound : fhMv miX12_laysRound 1 := ⟨⟨fhm (in_t (in_9 (List.mem_of_getElem? (i := 14) rfl))) rfl, fhm (in_t (in_1 (List.mem_of_getElem? (i := 14) rfl))) rfl, ⟨by decide +kernel, by decide +kernel⟩, by decide +kernel, by decide⟩, fhm (in_t (in_9 (List.mem_of_getElem? (i := 13) rfl))) rfl, fhm (List.mem_append_left _ (List.mem_of_getElem? (i := 110) rfl)) rfl⟩
def miX12_splitsGroups : fhMI := (yX12_splitsGroups, cX12_splitsGroups, 5, none)
theorem mvX12_splitsGroups : fhMv miX12_splitsGroups 1 := ⟨⟨fhm (in_t (in_9 (List.mem_of_getElem? (i := 18) rfl))) rfl, fhm (in_t (in_1 (List.mem_of_getElem? (i := 14) rfl))) rfl, ⟨by decide +kernel, by decide +kernel⟩, by decide +kernel, by decide⟩, fhm (in_t (in_9 (List.mem_of_getElem? (i := 17) rfl))) rfl, fhm (List.mem_append_left _ (List.mem_of_getElem? (i := 111) rfl)) rfl⟩
def miX12_begins : fhMI := (yX12_begins, cX12_begins, 2, none)
theorem mvX12_begins : fhMv miX12_begins 0 := ⟨⟨fhm (in_t (in_9 (List.mem_of_getElem? (i := 22) rfl))) rfl, fhm (in_t (in_1 (List.mem_of_getElem? (i := 14) rfl))) rfl, ⟨by decide +kernel, by decide +kernel⟩, by decide +kernel, by decide⟩, fhm (in_t (in_9 (List.mem_of_getElem? (i := 21) rfl))) rfl, fhm (List.mem_append_left _ (List.mem_of_getElem? (i := 112) rfl)) rfl⟩
def miX12_fault : fhMI := (yX12_fault, cX12_fault, 2, (some .int))
theorem mvX12_fault : fhMv miX12_fault 1 := ⟨⟨fhm (in_t (in_9 (List.mem_of_getElem? (i := 26) rfl))) rfl, fhm (in_t (in_1 (List.mem_of_getElem? (i := 14) rfl))) rfl, ⟨by decide +kernel, by decide +kernel⟩, by decide +kernel, by decide⟩, fhm (in_t (in_9 (List.mem_of_getElem? (i := 24) rfl))) rfl, fhm (in_t (in_9 (List.mem_of_getElem? (i := 25) rfl))) rfl⟩
def miX12_has : fhMI := (yX12_has, cX12_has, 2, (some .int))
theorem mvX12_has : fhMv miX12_has 1 := ⟨⟨fhm (in_t (in_9 (List.mem_of_getElem? (i := 30) rfl))) rfl, fhm (in_t (in_1 (List.mem_of_getElem? (i := 14) rfl))) rfl, ⟨by decide +kernel, by decide +kernel⟩, by decide +kernel, by decide⟩, fhm (in_t (in_9 (List.mem_of_getElem? (i := 28) rfl))) rfl, fhm (in_t (in_9 (List.mem_of_getElem? (i := 29) rfl))) rfl⟩
def miX12_leftMany : fhMI := (yX12_leftMany, cX12_leftMany, 3, (some .int))
theorem mvX12_leftMany : fhMv miX12_leftMany 0 := ⟨⟨fhm (in_t (in_9 (List.mem_of_getElem? (i := 34) rfl))) rfl, fhm (in_t (in_1 (List.mem_of_getElem? (i := 14) rfl))) rfl, ⟨by decide +kernel, by decide +kernel⟩, by decide +kernel, by decide⟩, fhm (in_t (in_9 (List.mem_of_getElem? (i := 33) rfl))) rfl, fhm (List.mem_append_left _ (List.mem_of_getElem? (i := 113) rfl)) rfl⟩
def miX12_knowersNow : fhMI := (yX12_knowersNow, cX12_knowersNow, 3, (some .int))
theorem mvX12_knowersNow : fhMv miX12_knowersNow 0 := ⟨⟨fhm (in_t (in_9 (List.mem_of_getElem? (i := 38) rfl))) rfl, fhm (in_t (in_1 (List.mem_of_getElem? (i := 14) rfl))) rfl, ⟨by decide +kernel, by decide +kernel⟩, by decide +kernel, by decide⟩, fhm (in_t (in_9 (List.mem_of_getElem? (i := 37) rfl))) rfl, fhm (List.mem_append_left _ (List.mem_of_getElem? (i := 114) rfl)) rfl⟩
def miX12_doesKnow : fhMI := (yX12_doesKnow, cX12_doesKnow, 2, (some .boolean))
theorem mvX12_doesKnow : fhMv miX12_doesKnow 1 := ⟨⟨fhm (in_t (in_9 (List.mem_of_getElem? (i := 42) rfl))) rfl, fhm (in_t (in_1 (List.mem_of_getElem? (i := 14) rfl))) rfl, ⟨by decide +kernel, by decide +kernel⟩, by decide +kernel, by decide⟩, fhm (in_t (in_9 (List.mem_of_getElem? (i := 41) rfl))) rfl, fhm (List.mem_append_left _ (List.mem_of_getElem? (i := 115) rfl)) rfl⟩
def miX12_laysOwn : fhMI := (yX12_laysOwn, cX12_laysOwn, 3, none)
theorem mvX12_laysOwn : fhMv miX12_laysOwn 1 := ⟨⟨fhm (in_t (in_9 (List.mem_of_getElem? (i := 46) rfl))) rfl, fhm (in_t (in_1 (List.mem_of_getElem? (i := 14) rfl))) rfl, ⟨by decide +kernel, by decide +kernel⟩, by decide +kernel, by decide⟩, fhm (in_t (in_9 (List.mem_of_getElem? (i := 45) rfl))) rfl, fhm (List.mem_append_left _ (List.mem_of_getElem? (i := 116) rfl)) rfl⟩
def miX12_isLeft : fhMI := (yX12_isLeft, cX12_isLeft, 2, (some .boolean))
theorem mvX12_isLeft : fhMv miX12_isLeft 1 := ⟨⟨fhm (in_t (in_9 (List.mem_of_getElem? (i := 50) rfl))) rfl, fhm (in_t (in_1 (List.mem_of_getElem? (i := 14) rfl))) rfl, ⟨by decide +kernel, by decide +kernel⟩, by decide +kernel, by decide⟩, fhm (in_t (in_9 (List.mem_of_getElem? (i := 49) rfl))) rfl, fhm (List.mem_append_left _ (List.mem_of_getElem? (i := 117) rfl)) rfl⟩
def miX12_bits : fhMI := (yX12_bits, cX12_bits, 3, (some .int))
theorem msX12_bits : fhMs miX12_bits 1 := ⟨⟨fhm (in_t (in_9 (List.mem_of_getElem? (i := 53) rfl))) rfl, fhm (in_t (in_1 (List.mem_of_getElem? (i := 14) rfl))) rfl, ⟨by decide +kernel, by decide +kernel⟩, by decide +kernel, by decide⟩, fhm (in_t (in_9 (List.mem_of_getElem? (i := 52) rfl))) rfl⟩
def miX12_letter : fhMI := (yX12_letter, cX12_letter, 8, (some .int))
theorem mvX12_letter : fhMv miX12_letter 2 := ⟨⟨fhm (in_t (in_9 (List.mem_of_getElem? (i := 57) rfl))) rfl, fhm (in_t (in_1 (List.mem_of_getElem? (i := 14) rfl))) rfl, ⟨by decide +kernel, by decide +kernel⟩, by decide +kernel, by decide⟩, fhm (in_t (in_9 (List.mem_of_getElem? (i := 55) rfl))) rfl, fhm (in_t (in_9 (List.mem_of_getElem? (i := 56) rfl))) rfl⟩
def miX12_guest : fhMI := (yX12_guest, cX12_guest, 3, (some .int))
theorem mvX12_guest : fhMv miX12_guest 2 := ⟨⟨fhm (in_t (in_9 (List.mem_of_getElem? (i := 62) rfl))) rfl, fhm (in_t (in_1 (List.mem_of_getElem? (i := 14) rfl))) rfl, ⟨by decide +kernel, by decide +kernel⟩, by decide +kernel, by decide⟩, fhm (in_t (in_9 (List.mem_of_getElem? (i := 60) rfl))) rfl, fhm (in_t (in_9 (List.mem_of_getElem? (i := 61) rfl))) rfl⟩
def miX12_fact : fhMI := (yX12_fact, cX12_fact, 6, (some .int))
theorem mvX12_fact : fhMv miX12_fact 2 := ⟨⟨fhm (in_t (in_9 (List.mem_of_getElem? (i := 66) rfl))) rfl, fhm (in_t (in_1 (List.mem_of_getElem? (i := 14) rfl))) rfl, ⟨by decide +kernel, by decide +kernel⟩, by decide +kernel, by decide⟩, fhm (in_t (in_9 (List.mem_of_getElem? (i := 64) rfl))) rfl, fhm (in_t (in_9 (List.mem_of_getElem? (i := 65) rfl))) rfl⟩
def miX12_isFact : fhMI := (yX12_isFact, cX12_isFact, 2, (some .boolean))
theorem mvX12_isFact : fhMv miX12_isFact 1 := ⟨⟨fhm (in_t (in_9 (List.mem_of_getElem? (i := 70) rfl))) rfl, fhm (in_t (in_1 (List.mem_of_getElem? (i := 14) rfl))) rfl, ⟨by decide +kernel, by decide +kernel⟩, by decide +kernel, by decide⟩, fhm (in_t (in_9 (List.mem_of_getElem? (i := 69) rfl))) rfl, fhm (List.mem_append_left _ (List.mem_of_getElem? (i := 118) rfl)) rfl⟩
def miX12_factMany : fhMI := (yX12_factMany, cX12_factMany, 1, (some .int))
theorem mvX12_factMany : fhMv miX12_factMany 0 := ⟨⟨fhm (in_t (in_9 (List.mem_of_getElem? (i := 74) rfl))) rfl, fhm (in_t (in_1 (List.mem_of_getElem? (i := 14) rfl))) rfl, ⟨by decide +kernel, by decide +kernel⟩, by decide +kernel, by decide⟩, fhm (in_t (in_9 (List.mem_of_getElem? (i := 73) rfl))) rfl, fhm (List.mem_append_left _ (List.mem_of_getElem? (i := 119) rfl)) rfl⟩
def miX12_doesHold : fhMI := (yX12_doesHold, cX12_doesHold, 3, (some .boolean))
theorem mvX12_doesHold : fhMv miX12_doesHold 2 := ⟨⟨fhm (in_t (in_9 (List.mem_of_getElem? (i := 79) rfl))) rfl, fhm (in_t (in_1 (List.mem_of_getElem? (i := 14) rfl))) rfl, ⟨by decide +kernel, by decide +kernel⟩, by decide +kernel, by decide⟩, fhm (in_t (in_9 (List.mem_of_getElem? (i := 78) rfl))) rfl, fhm (List.mem_append_left _ (List.mem_of_getElem? (i := 120) rfl)) rfl⟩
def miX12_left : fhMI := (yX12_left, cX12_left, 4, (some .int))
theorem mvX12_left : fhMv miX12_left 1 := ⟨⟨fhm (in_t (in_9 (List.mem_of_getElem? (i := 83) rfl))) rfl, fhm (in_t (in_1 (List.mem_of_getElem? (i := 14) rfl))) rfl, ⟨by decide +kernel, by decide +kernel⟩, by decide +kernel, by decide⟩, fhm (in_t (in_9 (List.mem_of_getElem? (i := 81) rfl))) rfl, fhm (in_t (in_9 (List.mem_of_getElem? (i := 82) rfl))) rfl⟩
def miX12_wears : fhMI := (yX12_wears, cX12_wears, 3, (some .int))
theorem mvX12_wears : fhMv miX12_wears 2 := ⟨⟨fhm (in_t (in_9 (List.mem_of_getElem? (i := 87) rfl))) rfl, fhm (in_t (in_1 (List.mem_of_getElem? (i := 14) rfl))) rfl, ⟨by decide +kernel, by decide +kernel⟩, by decide +kernel, by decide⟩, fhm (in_t (in_9 (List.mem_of_getElem? (i := 85) rfl))) rfl, fhm (in_t (in_9 (List.mem_of_getElem? (i := 86) rfl))) rfl⟩
def miX12_kept : fhMI := (yX12_kept, cX12_kept, 3, (some .int))
theorem mvX12_kept : fhMv miX12_kept 2 := ⟨⟨fhm (in_t (in_9 (List.mem_of_getElem? (i := 91) rfl))) rfl, fhm (in_t (in_1 (List.mem_of_getElem? (i := 14) rfl))) rfl, ⟨by decide +kernel, by decide +kernel⟩, by decide +kernel, by decide⟩, fhm (in_t (in_9 (List.mem_of_getElem? (i := 89) rfl))) rfl, fhm (in_t (in_9 (List.mem_of_getElem? (i := 90) rfl))) rfl⟩
def miX12_knows : fhMI := (yX12_knows, cX12_knows, 7, (some .int))
theorem mvX12_knows : fhMv miX12_knows 2 := ⟨⟨fhm (in_t (in_9 (List.mem_of_getElem? (i := 96) rfl))) rfl, fhm (in_t (in_1 (List.mem_of_getElem? (i := 14) rfl))) rfl, ⟨by decide +kernel, by decide +kernel⟩, by decide +kernel, by decide⟩, fhm (in_t (in_9 (List.mem_of_getElem? (i := 94) rfl))) rfl, fhm (in_t (in_9 (List.mem_of_getElem? (i := 95) rfl))) rfl⟩
def miX12_laysKnowing : fhMI := (yX12_laysKnowing, cX12_laysKnowing, 3, none)
theorem mvX12_laysKnowing : fhMv miX12_laysKnowing 0 := ⟨⟨fhm (in_t (in_9 (List.mem_of_getElem? (i := 100) rfl))) rfl, fhm (in_t (in_1 (List.mem_of_getElem? (i := 14) rfl))) rfl, ⟨by decide +kernel, by decide +kernel⟩, by decide +kernel, by decide⟩, fhm (in_t (in_9 (List.mem_of_getElem? (i := 99) rfl))) rfl, fhm (List.mem_append_left _ (List.mem_of_getElem? (i := 121) rfl)) rfl⟩
def miX12_deep : fhMI := (yX12_deep, cX12_deep, 2, (some .int))
theorem mvX12_deep : fhMv miX12_deep 0 := ⟨⟨fhm (in_t (in_9 (List.mem_of_getElem? (i := 104) rfl))) rfl, fhm (in_t (in_1 (List.mem_of_getElem? (i := 14) rfl))) rfl, ⟨by decide +kernel, by decide +kernel⟩, by decide +kernel, by decide⟩, fhm (in_t (in_9 (List.mem_of_getElem? (i := 102) rfl))) rfl, fhm (in_t (in_9 (List.mem_of_getElem? (i := 103) rfl))) rfl⟩
def miX12_goesDeeper : fhMI := (yX12_goesDeeper, cX12_goesDeeper, 3, none)
theorem mvX12_goesDeeper : fhMv miX12_goesDeeper 0 := ⟨⟨fhm (in_t (in_9 (List.mem_of_getElem? (i := 108) rfl))) rfl, fhm (in_t (in_1 (List.mem_of_getElem? (i := 14) rfl))) rfl, ⟨by decide +kernel, by decide +kernel⟩, by decide +kernel, by decide⟩, fhm (in_t (in_9 (List.mem_of_getElem? (i := 107) rfl))) rfl, fhm (List.mem_append_left _ (List.mem_of_getElem? (i := 122) rfl)) rfl⟩
def miX12_later : fhMI := (yX12_later, cX12_later, 4, (some .int))
theorem mvX12_later : fhMv miX12_later 2 := ⟨⟨fhm (in_t (in_9 (List.mem_of_getElem? (i := 112) rfl))) rfl, fhm (in_t (in_1 (List.mem_of_getElem? (i := 14) rfl))) rfl, ⟨by decide +kernel, by decide +kernel⟩, by decide +kernel, by decide⟩, fhm (in_t (in_9 (List.mem_of_getElem? (i := 110) rfl))) rfl, fhm (in_t (in_9 (List.mem_of_getElem? (i := 111) rfl))) rfl⟩
def miX12_putsAside : fhMI := (yX12_putsAside, cX12_putsAside, 2, none)
theorem mvX12_putsAside : fhMv miX12_putsAside 0 := ⟨⟨fhm (in_t (in_9 (List.mem_of_getElem? (i := 117) rfl))) rfl, fhm (in_t (in_1 (List.mem_of_getElem? (i := 14) rfl))) rfl, ⟨by decide +kernel, by decide +kernel⟩, by decide +kernel, by decide⟩, fhm (in_t (in_9 (List.mem_of_getElem? (i := 116) rfl))) rfl, fhm (List.mem_append_left _ (List.mem_of_getElem? (i := 123) rfl)) rfl⟩
def miX12_roundGoes : fhMI := (yX12_roundGoes, cX12_roundGoes, 3, (some .int))
theorem mvX12_roundGoes : fhMv miX12_roundGoes 1 := ⟨⟨fhm (in_t (in_9 (List.mem_of_getElem? (i := 121) rfl))) rfl, fhm (in_t (in_1 (List.mem_of_getElem? (i := 14) rfl))) rfl, ⟨by decide +kernel, by decide +kernel⟩, by decide +kernel, by decide⟩, fhm (in_t (in_9 (List.mem_of_getElem? (i := 120) rfl))) rfl, fhm (List.mem_append_left _ (List.mem_of_getElem? (i := 124) rfl)) rfl⟩
def miX12_leavesAs : fhMI := (yX12_leavesAs, cX12_leavesAs, 4, (some .int))
theorem mvX12_leavesAs : fhMv miX12_leavesAs 1 := ⟨⟨fhm (in_t (in_9 (List.mem_of_getElem? (i := 125) rfl))) rfl, fhm (in_t (in_1 (List.mem_of_getElem? (i := 14) rfl))) rfl, ⟨by decide +kernel, by decide +kernel⟩, by decide +kernel, by decide⟩, fhm (in_t (in_9 (List.mem_of_getElem? (i := 124) rfl))) rfl, fhm (List.mem_append_left _ (List.mem_of_getElem? (i := 125) rfl)) rfl⟩
def miX12_isKept : fhMI := (yX12_isKept, cX12_isKept, 5, none)
theorem mvX12_isKept : fhMv miX12_isKept 3 := ⟨⟨fhm (in_t (in_9 (List.mem_of_getElem? (i := 129) rfl))) rfl, fhm (in_t (in_1 (List.mem_of_getElem? (i := 14) rfl))) rfl, ⟨by decide +kernel, by decide +kernel⟩, by decide +kernel, by decide⟩, fhm (in_t (in_9 (List.mem_of_getElem? (i := 128) rfl))) rfl, fhm (List.mem_append_left _ (List.mem_of_getElem? (i := 126) rfl)) rfl⟩
def miX12_takesBack : fhMI := (yX12_takesBack, cX12_takesBack, 1, none)
theorem mvX12_takesBack : fhMv miX12_takesBack 0 := ⟨⟨fhm (in_t (in_9 (List.mem_of_getElem? (i := 133) rfl))) rfl, fhm (in_t (in_1 (List.mem_of_getElem? (i := 14) rfl))) rfl, ⟨by decide +kernel, by decide +kernel⟩, by decide +kernel, by decide⟩, fhm (in_t (in_9 (List.mem_of_getElem? (i := 132) rfl))) rfl, fhm (List.mem_append_left _ (List.mem_of_getElem? (i := 127) rfl)) rfl⟩
def miX12_triesAnew : fhMI := (yX12_triesAnew, cX12_triesAnew, 2, none)
theorem mvX12_triesAnew : fhMv miX12_triesAnew 0 := ⟨⟨fhm (in_t (in_9 (List.mem_of_getElem? (i := 137) rfl))) rfl, fhm (in_t (in_1 (List.mem_of_getElem? (i := 14) rfl))) rfl, ⟨by decide +kernel, by decide +kernel⟩, by decide +kernel, by decide⟩, fhm (in_t (in_9 (List.mem_of_getElem? (i := 136) rfl))) rfl, fhm (List.mem_append_left _ (List.mem_of_getElem? (i := 128) rfl)) rfl⟩
def miX12_learns : fhMI := (yX12_learns, cX12_learns, 4, (some .int))
theorem mvX12_learns : fhMv miX12_learns 1 := ⟨⟨fhm (in_t (in_9 (List.mem_of_getElem? (i := 141) rfl))) rfl, fhm (in_t (in_1 (List.mem_of_getElem? (i := 14) rfl))) rfl, ⟨by decide +kernel, by decide +kernel⟩, by decide +kernel, by decide⟩, fhm (in_t (in_9 (List.mem_of_getElem? (i := 139) rfl))) rfl, fhm (in_t (in_9 (List.mem_of_getElem? (i := 140) rfl))) rfl⟩
def miX12_rests : fhMI := (yX12_rests, cX12_rests, 4, (some .int))
theorem mvX12_rests : fhMv miX12_rests 0 := ⟨⟨fhm (in_t (in_9 (List.mem_of_getElem? (i := 145) rfl))) rfl, fhm (in_t (in_1 (List.mem_of_getElem? (i := 14) rfl))) rfl, ⟨by decide +kernel, by decide +kernel⟩, by decide +kernel, by decide⟩, fhm (in_t (in_9 (List.mem_of_getElem? (i := 143) rfl))) rfl, fhm (in_t (in_9 (List.mem_of_getElem? (i := 144) rfl))) rfl⟩
def miX12_hints : fhMI := (yX12_hints, cX12_hints, 2, (some .int))
theorem mvX12_hints : fhMv miX12_hints 1 := ⟨⟨fhm (in_t (in_9 (List.mem_of_getElem? (i := 149) rfl))) rfl, fhm (in_t (in_1 (List.mem_of_getElem? (i := 14) rfl))) rfl, ⟨by decide +kernel, by decide +kernel⟩, by decide +kernel, by decide⟩, fhm (in_t (in_9 (List.mem_of_getElem? (i := 147) rfl))) rfl, fhm (in_t (in_9 (List.mem_of_getElem? (i := 148) rfl))) rfl⟩
def miX12_fewest : fhMI := (yX12_fewest, cX12_fewest, 5, (some .int))
theorem mvX12_fewest : fhMv miX12_fewest 2 := ⟨⟨fhm (in_t (in_9 (List.mem_of_getElem? (i := 153) rfl))) rfl, fhm (in_t (in_1 (List.mem_of_getElem? (i := 14) rfl))) rfl, ⟨by decide +kernel, by decide +kernel⟩, by decide +kernel, by decide⟩, fhm (in_t (in_9 (List.mem_of_getElem? (i := 152) rfl))) rfl, fhm (List.mem_append_left _ (List.mem_of_getElem? (i := 129) rfl)) rfl⟩
def miX12_knowsBy : fhMI := (yX12_knowsBy, cX12_knowsBy, 5, (some .boolean))
theorem mvX12_knowsBy : fhMv miX12_knowsBy 2 := ⟨⟨fhm (in_t (in_9 (List.mem_of_getElem? (i := 157) rfl))) rfl, fhm (in_t (in_1 (List.mem_of_getElem? (i := 14) rfl))) rfl, ⟨by decide +kernel, by decide +kernel⟩, by decide +kernel, by decide⟩, fhm (in_t (in_9 (List.mem_of_getElem? (i := 156) rfl))) rfl, fhm (List.mem_append_left _ (List.mem_of_getElem? (i := 130) rfl)) rfl⟩
def miX12_secret : fhMI := (yX12_secret, cX12_secret, 3, (some .int))
theorem mvX12_secret : fhMv miX12_secret 2 := ⟨⟨fhm (in_t (in_9 (List.mem_of_getElem? (i := 161) rfl))) rfl, fhm (in_t (in_1 (List.mem_of_getElem? (i := 14) rfl))) rfl, ⟨by decide +kernel, by decide +kernel⟩, by decide +kernel, by decide⟩, fhm (in_t (in_9 (List.mem_of_getElem? (i := 159) rfl))) rfl, fhm (in_t (in_9 (List.mem_of_getElem? (i := 160) rfl))) rfl⟩
def miX12_speaker : fhMI := (yX12_speaker, cX12_speaker, 6, (some .int))
theorem mvX12_speaker : fhMv miX12_speaker 1 := ⟨⟨fhm (in_t (in_9 (List.mem_of_getElem? (i := 165) rfl))) rfl, fhm (in_t (in_1 (List.mem_of_getElem? (i := 14) rfl))) rfl, ⟨by decide +kernel, by decide +kernel⟩, by decide +kernel, by decide⟩, fhm (in_t (in_9 (List.mem_of_getElem? (i := 163) rfl))) rfl, fhm (in_t (in_9 (List.mem_of_getElem? (i := 164) rfl))) rfl⟩
def miX12_leftIfSays : fhMI := (yX12_leftIfSays, cX12_leftIfSays, 4, (some .int))
theorem mvX12_leftIfSays : fhMv miX12_leftIfSays 1 := ⟨⟨fhm (in_t (in_9 (List.mem_of_getElem? (i := 169) rfl))) rfl, fhm (in_t (in_1 (List.mem_of_getElem? (i := 14) rfl))) rfl, ⟨by decide +kernel, by decide +kernel⟩, by decide +kernel, by decide⟩, fhm (in_t (in_9 (List.mem_of_getElem? (i := 168) rfl))) rfl, fhm (List.mem_append_left _ (List.mem_of_getElem? (i := 131) rfl)) rfl⟩
def miX12_slowest : fhMI := (yX12_slowest, cX12_slowest, 7, (some .int))
theorem mvX12_slowest : fhMv miX12_slowest 2 := ⟨⟨fhm (in_t (in_9 (List.mem_of_getElem? (i := 173) rfl))) rfl, fhm (in_t (in_1 (List.mem_of_getElem? (i := 14) rfl))) rfl, ⟨by decide +kernel, by decide +kernel⟩, by decide +kernel, by decide⟩, fhm (in_t (in_9 (List.mem_of_getElem? (i := 171) rfl))) rfl, fhm (in_t (in_9 (List.mem_of_getElem? (i := 172) rfl))) rfl⟩
def miX12_knewAt : fhMI := (yX12_knewAt, cX12_knewAt, 4, (some .boolean))
theorem mvX12_knewAt : fhMv miX12_knewAt 3 := ⟨⟨fhm (in_t (in_9 (List.mem_of_getElem? (i := 177) rfl))) rfl, fhm (in_t (in_1 (List.mem_of_getElem? (i := 14) rfl))) rfl, ⟨by decide +kernel, by decide +kernel⟩, by decide +kernel, by decide⟩, fhm (in_t (in_9 (List.mem_of_getElem? (i := 176) rfl))) rfl, fhm (List.mem_append_left _ (List.mem_of_getElem? (i := 132) rfl)) rfl⟩
def miX12_odds : fhMI := (yX12_odds, cX12_odds, 5, (some .int))
theorem mvX12_odds : fhMv miX12_odds 2 := ⟨⟨fhm (in_t (in_9 (List.mem_of_getElem? (i := 181) rfl))) rfl, fhm (in_t (in_1 (List.mem_of_getElem? (i := 14) rfl))) rfl, ⟨by decide +kernel, by decide +kernel⟩, by decide +kernel, by decide⟩, fhm (in_t (in_9 (List.mem_of_getElem? (i := 179) rfl))) rfl, fhm (in_t (in_9 (List.mem_of_getElem? (i := 180) rfl))) rfl⟩
def miX12_hear : fhMI := (yX12_hear, cX12_hear, 4, (some .int))
theorem mvX12_hear : fhMv miX12_hear 0 := ⟨⟨fhm (in_t (in_9 (List.mem_of_getElem? (i := 185) rfl))) rfl, fhm (in_t (in_1 (List.mem_of_getElem? (i := 14) rfl))) rfl, ⟨by decide +kernel, by decide +kernel⟩, by decide +kernel, by decide⟩, fhm (in_t (in_9 (List.mem_of_getElem? (i := 183) rfl))) rfl, fhm (in_t (in_9 (List.mem_of_getElem? (i := 184) rfl))) rfl⟩
def miX12_fits : fhMI := (yX12_fits, cX12_fits, 4, (some .int))
theorem mvX12_fits : fhMv miX12_fits 1 := ⟨⟨fhm (in_t (in_9 (List.mem_of_getElem? (i := 189) rfl))) rfl, fhm (in_t (in_1 (List.mem_of_getElem? (i := 14) rfl))) rfl, ⟨by decide +kernel, by decide +kernel⟩, by decide +kernel, by decide⟩, fhm (in_t (in_9 (List.mem_of_getElem? (i := 187) rfl))) rfl, fhm (in_t (in_9 (List.mem_of_getElem? (i := 188) rfl))) rfl⟩
def miX12_doesFit : fhMI := (yX12_doesFit, cX12_doesFit, 3, (some .boolean))
theorem mvX12_doesFit : fhMv miX12_doesFit 1 := ⟨⟨fhm (in_t (in_9 (List.mem_of_getElem? (i := 193) rfl))) rfl, fhm (in_t (in_1 (List.mem_of_getElem? (i := 14) rfl))) rfl, ⟨by decide +kernel, by decide +kernel⟩, by decide +kernel, by decide⟩, fhm (in_t (in_9 (List.mem_of_getElem? (i := 192) rfl))) rfl, fhm (List.mem_append_left _ (List.mem_of_getElem? (i := 133) rfl)) rfl⟩
def miX12_could : fhMI := (yX12_could, cX12_could, 4, (some .int))
theorem mvX12_could : fhMv miX12_could 1 := ⟨⟨fhm (in_t (in_9 (List.mem_of_getElem? (i := 197) rfl))) rfl, fhm (in_t (in_1 (List.mem_of_getElem? (i := 14) rfl))) rfl, ⟨by decide +kernel, by decide +kernel⟩, by decide +kernel, by decide⟩, fhm (in_t (in_9 (List.mem_of_getElem? (i := 195) rfl))) rfl, fhm (in_t (in_9 (List.mem_of_getElem? (i := 196) rfl))) rfl⟩
def miX12_tells : fhMI := (yX12_tells, cX12_tells, 9, (some .int))
theorem mvX12_tells : fhMv miX12_tells 1 := ⟨⟨fhm (in_t (in_9 (List.mem_of_getElem? (i := 201) rfl))) rfl, fhm (in_t (in_1 (List.mem_of_getElem? (i := 14) rfl))) rfl, ⟨by decide +kernel, by decide +kernel⟩, by decide +kernel, by decide⟩, fhm (in_t (in_9 (List.mem_of_getElem? (i := 199) rfl))) rfl, fhm (in_t (in_9 (List.mem_of_getElem? (i := 200) rfl))) rfl⟩
def miX12_mostAlike : fhMI := (yX12_mostAlike, cX12_mostAlike, 6, (some .int))
theorem mvX12_mostAlike : fhMv miX12_mostAlike 3 := ⟨⟨fhm (in_t (in_9 (List.mem_of_getElem? (i := 206) rfl))) rfl, fhm (in_t (in_1 (List.mem_of_getElem? (i := 14) rfl))) rfl, ⟨by decide +kernel, by decide +kernel⟩, by decide +kernel, by decide⟩, fhm (in_t (in_9 (List.mem_of_getElem? (i := 205) rfl))) rfl, fhm (List.mem_append_left _ (List.mem_of_getElem? (i := 134) rfl)) rfl⟩
def miX12_undo : fhMI := (yX12_undo, cX12_undo, 2, (some .boolean))
theorem mvX12_undo : fhMv miX12_undo 0 := ⟨⟨fhm (in_t (in_9 (List.mem_of_getElem? (i := 210) rfl))) rfl, fhm (in_t (in_1 (List.mem_of_getElem? (i := 14) rfl))) rfl, ⟨by decide +kernel, by decide +kernel⟩, by decide +kernel, by decide⟩, fhm (in_t (in_9 (List.mem_of_getElem? (i := 208) rfl))) rfl, fhm (in_t (in_9 (List.mem_of_getElem? (i := 209) rfl))) rfl⟩
def miX12_round : fhMI := (yX12_round, cX12_round, 1, (some .int))
theorem mvX12_round : fhMv miX12_round 0 := ⟨⟨fhm (in_t (in_9 (List.mem_of_getElem? (i := 214) rfl))) rfl, fhm (in_t (in_1 (List.mem_of_getElem? (i := 14) rfl))) rfl, ⟨by decide +kernel, by decide +kernel⟩, by decide +kernel, by decide⟩, fhm (in_t (in_9 (List.mem_of_getElem? (i := 212) rfl))) rfl, fhm (in_t (in_9 (List.mem_of_getElem? (i := 213) rfl))) rfl⟩
def miX12_keeps : fhMI := (yX12_keeps, cX12_keeps, 2, none)
theorem mvX12_keeps : fhMv miX12_keeps 0 := ⟨⟨fhm (in_t (in_9 (List.mem_of_getElem? (i := 218) rfl))) rfl, fhm (in_t (in_1 (List.mem_of_getElem? (i := 14) rfl))) rfl, ⟨by decide +kernel, by decide +kernel⟩, by decide +kernel, by decide⟩, fhm (in_t (in_9 (List.mem_of_getElem? (i := 217) rfl))) rfl, fhm (List.mem_append_left _ (List.mem_of_getElem? (i := 135) rfl)) rfl⟩
def miX12_says : fhMI := (yX12_says, cX12_says, 3, (some .int))
theorem mvX12_says : fhMv miX12_says 1 := ⟨⟨fhm (in_t (in_9 (List.mem_of_getElem? (i := 222) rfl))) rfl, fhm (in_t (in_1 (List.mem_of_getElem? (i := 14) rfl))) rfl, ⟨by decide +kernel, by decide +kernel⟩, by decide +kernel, by decide⟩, fhm (in_t (in_9 (List.mem_of_getElem? (i := 220) rfl))) rfl, fhm (in_t (in_9 (List.mem_of_getElem? (i := 221) rfl))) rfl⟩
def miX12_tell : fhMI := (yX12_tell, cX12_tell, 4, (some .int))
theorem mvX12_tell : fhMv miX12_tell 1 := ⟨⟨fhm (in_t (in_9 (List.mem_of_getElem? (i := 226) rfl))) rfl, fhm (in_t (in_1 (List.mem_of_getElem? (i := 14) rfl))) rfl, ⟨by decide +kernel, by decide +kernel⟩, by decide +kernel, by decide⟩, fhm (in_t (in_9 (List.mem_of_getElem? (i := 224) rfl))) rfl, fhm (in_t (in_9 (List.mem_of_getElem? (i := 225) rfl))) rfl⟩
def miX12_wear : fhMI := (yX12_wear, cX12_wear, 3, (some .boolean))
theorem mvX12_wear : fhMv miX12_wear 2 := ⟨⟨fhm (in_t (in_9 (List.mem_of_getElem? (i := 230) rfl))) rfl, fhm (in_t (in_1 (List.mem_of_getElem? (i := 14) rfl))) rfl, ⟨by decide +kernel, by decide +kernel⟩, by decide +kernel, by decide⟩, fhm (in_t (in_9 (List.mem_of_getElem? (i := 228) rfl))) rfl, fhm (in_t (in_9 (List.mem_of_getElem? (i := 229) rfl))) rfl⟩
def miX12_rowWith : fhMI := (yX12_rowWith, cX12_rowWith, 5, (some .int))
theorem mvX12_rowWith : fhMv miX12_rowWith 2 := ⟨⟨fhm (in_t (in_9 (List.mem_of_getElem? (i := 234) rfl))) rfl, fhm (in_t (in_1 (List.mem_of_getElem? (i := 14) rfl))) rfl, ⟨by decide +kernel, by decide +kernel⟩, by decide +kernel, by decide⟩, fhm (in_t (in_9 (List.mem_of_getElem? (i := 233) rfl))) rfl, fhm (List.mem_append_left _ (List.mem_of_getElem? (i := 136) rfl)) rfl⟩
def miX12_isRefused : fhMI := (yX12_isRefused, cX12_isRefused, 2, (some .boolean))
theorem mvX12_isRefused : fhMv miX12_isRefused 1 := ⟨⟨fhm (in_t (in_9 (List.mem_of_getElem? (i := 238) rfl))) rfl, fhm (in_t (in_1 (List.mem_of_getElem? (i := 14) rfl))) rfl, ⟨by decide +kernel, by decide +kernel⟩, by decide +kernel, by decide⟩, fhm (in_t (in_9 (List.mem_of_getElem? (i := 237) rfl))) rfl, fhm (List.mem_append_left _ (List.mem_of_getElem? (i := 137) rfl)) rfl⟩
def miX12_isWorn : fhMI := (yX12_isWorn, cX12_isWorn, 2, none)
theorem mvX12_isWorn : fhMv miX12_isWorn 1 := ⟨⟨fhm (in_t (in_10 (List.mem_of_getElem? (i := 2) rfl))) rfl, fhm (in_t (in_1 (List.mem_of_getElem? (i := 14) rfl))) rfl, ⟨by decide +kernel, by decide +kernel⟩, by decide +kernel, by decide⟩, fhm (in_t (in_10 (List.mem_of_getElem? (i := 1) rfl))) rfl, fhm (List.mem_append_left _ (List.mem_of_getElem? (i := 138) rfl)) rfl⟩
def miX12_seed : fhMI := (yX12_seed, cX12_seed, 2, (some .boolean))
theorem mvX12_seed : fhMv miX12_seed 1 := ⟨⟨fhm (in_t (in_10 (List.mem_of_getElem? (i := 6) rfl))) rfl, fhm (in_t (in_1 (List.mem_of_getElem? (i := 14) rfl))) rfl, ⟨by decide +kernel, by decide +kernel⟩, by decide +kernel, by decide⟩, fhm (in_t (in_10 (List.mem_of_getElem? (i := 4) rfl))) rfl, fhm (in_t (in_10 (List.mem_of_getElem? (i := 5) rfl))) rfl⟩
def miX12_chance : fhMI := (yX12_chance, cX12_chance, 5, (some .int))
theorem mvX12_chance : fhMv miX12_chance 1 := ⟨⟨fhm (in_t (in_10 (List.mem_of_getElem? (i := 10) rfl))) rfl, fhm (in_t (in_1 (List.mem_of_getElem? (i := 14) rfl))) rfl, ⟨by decide +kernel, by decide +kernel⟩, by decide +kernel, by decide⟩, fhm (in_t (in_10 (List.mem_of_getElem? (i := 8) rfl))) rfl, fhm (in_t (in_10 (List.mem_of_getElem? (i := 9) rfl))) rfl⟩
def miX12_drawOf : fhMI := (yX12_drawOf, cX12_drawOf, 2, (some .int))
theorem mvX12_drawOf : fhMv miX12_drawOf 1 := ⟨⟨fhm (in_t (in_10 (List.mem_of_getElem? (i := 14) rfl))) rfl, fhm (in_t (in_1 (List.mem_of_getElem? (i := 14) rfl))) rfl, ⟨by decide +kernel, by decide +kernel⟩, by decide +kernel, by decide⟩, fhm (in_t (in_10 (List.mem_of_getElem? (i := 13) rfl))) rfl, fhm (List.mem_append_left _ (List.mem_of_getElem? (i := 139) rfl)) rfl⟩
def miX12_deal : fhMI := (yX12_deal, cX12_deal, 3, (some .int))
theorem mvX12_deal : fhMv miX12_deal 0 := ⟨⟨fhm (in_t (in_10 (List.mem_of_getElem? (i := 22) rfl))) rfl, fhm (in_t (in_1 (List.mem_of_getElem? (i := 14) rfl))) rfl, ⟨by decide +kernel, by decide +kernel⟩, by decide +kernel, by decide⟩, fhm (in_t (in_10 (List.mem_of_getElem? (i := 20) rfl))) rfl, fhm (in_t (in_10 (List.mem_of_getElem? (i := 21) rfl))) rfl⟩
def miX12_ask : fhMI := (yX12_ask, cX12_ask, 3, (some .long))
theorem mvX12_ask : fhMv miX12_ask 0 := ⟨⟨fhm (in_t (in_10 (List.mem_of_getElem? (i := 26) rfl))) rfl, fhm (in_t (in_1 (List.mem_of_getElem? (i := 14) rfl))) rfl, ⟨by decide +kernel, by decide +kernel⟩, by decide +kernel, by decide⟩, fhm (in_t (in_10 (List.mem_of_getElem? (i := 24) rfl))) rfl, fhm (in_t (in_10 (List.mem_of_getElem? (i := 25) rfl))) rfl⟩
def miX12_qKind : fhMI := (yX12_qKind, cX12_qKind, 2, (some .int))
theorem mvX12_qKind : fhMv miX12_qKind 0 := ⟨⟨fhm (in_t (in_10 (List.mem_of_getElem? (i := 31) rfl))) rfl, fhm (in_t (in_1 (List.mem_of_getElem? (i := 14) rfl))) rfl, ⟨by decide +kernel, by decide +kernel⟩, by decide +kernel, by decide⟩, fhm (in_t (in_10 (List.mem_of_getElem? (i := 30) rfl))) rfl, fhm (List.mem_append_left _ (List.mem_of_getElem? (i := 140) rfl)) rfl⟩
def miX12_qTakes : fhMI := (yX12_qTakes, cX12_qTakes, 6, none)
theorem mvX12_qTakes : fhMv miX12_qTakes 3 := ⟨⟨fhm (in_t (in_10 (List.mem_of_getElem? (i := 36) rfl))) rfl, fhm (in_t (in_1 (List.mem_of_getElem? (i := 14) rfl))) rfl, ⟨by decide +kernel, by decide +kernel⟩, by decide +kernel, by decide⟩, fhm (in_t (in_10 (List.mem_of_getElem? (i := 35) rfl))) rfl, fhm (List.mem_append_left _ (List.mem_of_getElem? (i := 141) rfl)) rfl⟩
def miX12_octet : fhMI := (yX12_octet, cX12_octet, 2, (some .int))
theorem mvX12_octet : fhMv miX12_octet 1 := ⟨⟨fhm (in_t (in_10 (List.mem_of_getElem? (i := 40) rfl))) rfl, fhm (in_t (in_1 (List.mem_of_getElem? (i := 14) rfl))) rfl, ⟨by decide +kernel, by decide +kernel⟩, by decide +kernel, by decide⟩, fhm (in_t (in_10 (List.mem_of_getElem? (i := 38) rfl))) rfl, fhm (in_t (in_10 (List.mem_of_getElem? (i := 39) rfl))) rfl⟩
def miX12_status : fhMI := (yX12_status, cX12_status, 2, (some .int))
theorem mvX12_status : fhMv miX12_status 1 := ⟨⟨fhm (in_t (in_10 (List.mem_of_getElem? (i := 44) rfl))) rfl, fhm (in_t (in_1 (List.mem_of_getElem? (i := 14) rfl))) rfl, ⟨by decide +kernel, by decide +kernel⟩, by decide +kernel, by decide⟩, fhm (in_t (in_10 (List.mem_of_getElem? (i := 42) rfl))) rfl, fhm (in_t (in_10 (List.mem_of_getElem? (i := 43) rfl))) rfl⟩
def miX12_image : fhMI := (yX12_image, cX12_image, 4, (some .int))
theorem mvX12_image : fhMv miX12_image 0 := ⟨⟨fhm (in_t (in_10 (List.mem_of_getElem? (i := 48) rfl))) rfl, fhm (in_t (in_1 (List.mem_of_getElem? (i := 14) rfl))) rfl, ⟨by decide +kernel, by decide +kernel⟩, by decide +kernel, by decide⟩, fhm (in_t (in_10 (List.mem_of_getElem? (i := 46) rfl))) rfl, fhm (in_t (in_10 (List.mem_of_getElem? (i := 47) rfl))) rfl⟩
def miX12_writesTwo : fhMI := (yX12_writesTwo, cX12_writesTwo, 2, none)
theorem mvX12_writesTwo : fhMv miX12_writesTwo 1 := ⟨⟨fhm (in_t (in_10 (List.mem_of_getElem? (i := 52) rfl))) rfl, fhm (in_t (in_1 (List.mem_of_getElem? (i := 14) rfl))) rfl, ⟨by decide +kernel, by decide +kernel⟩, by decide +kernel, by decide⟩, fhm (in_t (in_10 (List.mem_of_getElem? (i := 51) rfl))) rfl, fhm (List.mem_append_left _ (List.mem_of_getElem? (i := 142) rfl)) rfl⟩
def miX12_writes : fhMI := (yX12_writes, cX12_writes, 2, none)
theorem mvX12_writes : fhMv miX12_writes 1 := ⟨⟨fhm (in_t (in_10 (List.mem_of_getElem? (i := 56) rfl))) rfl, fhm (in_t (in_1 (List.mem_of_getElem? (i := 14) rfl))) rfl, ⟨by decide +kernel, by decide +kernel⟩, by decide +kernel, by decide⟩, fhm (in_t (in_10 (List.mem_of_getElem? (i := 55) rfl))) rfl, fhm (List.mem_append_left _ (List.mem_of_getElem? (i := 143) rfl)) rfl⟩
def miX12_checked : fhMI := (yX12_checked, cX12_checked, 4, (some .int))
theorem msX12_checked : fhMs miX12_checked 2 := ⟨⟨fhm (in_t (in_10 (List.mem_of_getElem? (i := 59) rfl))) rfl, fhm (in_t (in_1 (List.mem_of_getElem? (i := 14) rfl))) rfl, ⟨by decide +kernel, by decide +kernel⟩, by decide +kernel, by decide⟩, fhm (in_t (in_10 (List.mem_of_getElem? (i := 58) rfl))) rfl⟩
def miX12_on : fhMI := (yX12_on, cX12_on, 4, (some .boolean))
theorem mvX12_on : fhMv miX12_on 0 := ⟨⟨fhm (in_t (in_10 (List.mem_of_getElem? (i := 63) rfl))) rfl, fhm (in_t (in_1 (List.mem_of_getElem? (i := 14) rfl))) rfl, ⟨by decide +kernel, by decide +kernel⟩, by decide +kernel, by decide⟩, fhm (in_t (in_10 (List.mem_of_getElem? (i := 61) rfl))) rfl, fhm (in_t (in_10 (List.mem_of_getElem? (i := 62) rfl))) rfl⟩
def miX12_isImage : fhMI := (yX12_isImage, cX12_isImage, 6, (some .boolean))
theorem mvX12_isImage : fhMv miX12_isImage 1 := ⟨⟨fhm (in_t (in_10 (List.mem_of_getElem? (i := 67) rfl))) rfl, fhm (in_t (in_1 (List.mem_of_getElem? (i := 14) rfl))) rfl, ⟨by decide +kernel, by decide +kernel⟩, by decide +kernel, by decide⟩, fhm (in_t (in_10 (List.mem_of_getElem? (i := 66) rfl))) rfl, fhm (List.mem_append_left _ (List.mem_of_getElem? (i := 144) rfl)) rfl⟩
def miX12_twoAt : fhMI := (yX12_twoAt, cX12_twoAt, 2, (some .int))
theorem mvX12_twoAt : fhMv miX12_twoAt 1 := ⟨⟨fhm (in_t (in_10 (List.mem_of_getElem? (i := 71) rfl))) rfl, fhm (in_t (in_1 (List.mem_of_getElem? (i := 14) rfl))) rfl, ⟨by decide +kernel, by decide +kernel⟩, by decide +kernel, by decide⟩, fhm (in_t (in_10 (List.mem_of_getElem? (i := 70) rfl))) rfl, fhm (List.mem_append_left _ (List.mem_of_getElem? (i := 145) rfl)) rfl⟩
def miJ6_bitCount_0f7a4 : fhMI := (yJ6_bitCount_0f7a4, cJ6_bitCount_0f7a4, 1, (some .int))
theorem msJ6_bitCount_0f7a4 : fhMs miJ6_bitCount_0f7a4 1 := ⟨⟨fhm (in_t (in_4 (List.mem_of_getElem? (i := 168) rfl))) rfl, fhm (in_t (in_1 (List.mem_of_getElem? (i := 19) rfl))) rfl, ⟨by decide +kernel, by decide +kernel⟩, by decide +kernel, by decide⟩, fhm (in_t (in_4 (List.mem_of_getElem? (i := 167) rfl))) rfl⟩
def miJ9_floorDiv_7cf53 : fhMI := (yJ9_floorDiv_7cf53, cJ9_floorDiv_7cf53, 3, (some .int))
theorem msJ9_floorDiv_7cf53 : fhMs miJ9_floorDiv_7cf53 2 := ⟨⟨fhm (in_t (in_4 (List.mem_of_getElem? (i := 114) rfl))) rfl, fhm (in_t (in_1 (List.mem_of_getElem? (i := 3) rfl))) rfl, ⟨by decide +kernel, by decide +kernel⟩, by decide +kernel, by decide⟩, fhm (in_t (in_4 (List.mem_of_getElem? (i := 113) rfl))) rfl⟩
theorem ml_15_13 : Cond.methodLink (fhrx 15) 13 yX11_feed ∈ fhtbl := fhm (in_t (in_3 (List.mem_of_getElem? (i := 24) rfl))) rfl
theorem ml_11_106 : Cond.methodLink (fhrx 11) 106 yX11_refuse ∈ fhtbl := fhm (in_t (in_3 (List.mem_of_getElem? (i := 28) rfl))) rfl
theorem ml_11_117 : Cond.methodLink (fhrx 11) 117 yX2_get ∈ fhtbl := fhm (in_t (in_3 (List.mem_of_getElem? (i := 32) rfl))) rfl
theorem ml_11_113 : Cond.methodLink (fhrx 11) 113 yX2_put ∈ fhtbl := fhm (in_t (in_3 (List.mem_of_getElem? (i := 36) rfl))) rfl
theorem ml_11_110 : Cond.methodLink (fhrx 11) 110 yX11_putFour ∈ fhtbl := fhm (in_t (in_3 (List.mem_of_getElem? (i := 40) rfl))) rfl
theorem ml_15_18 : Cond.methodLink (fhrx 15) 18 yX11_end ∈ fhtbl := fhm (in_t (in_3 (List.mem_of_getElem? (i := 44) rfl))) rfl
theorem ml_15_23 : Cond.methodLink (fhrx 15) 23 yX11_parlour ∈ fhtbl := fhm (in_t (in_3 (List.mem_of_getElem? (i := 48) rfl))) rfl
theorem ml_11_120 : Cond.methodLink (fhrx 11) 120 yX11_takeTape ∈ fhtbl := fhm (in_t (in_3 (List.mem_of_getElem? (i := 52) rfl))) rfl
theorem ml_11_124 : Cond.methodLink (fhrx 11) 124 yX7_open ∈ fhtbl := fhm (in_t (in_3 (List.mem_of_getElem? (i := 56) rfl))) rfl
theorem ml_7_44 : Cond.methodLink (fhrx 7) 44 yX7_forget ∈ fhtbl := fhm (in_t (in_3 (List.mem_of_getElem? (i := 60) rfl))) rfl
theorem ml_7_97 : Cond.methodLink (fhrx 7) 97 yX2_wipe ∈ fhtbl := fhm (in_t (in_3 (List.mem_of_getElem? (i := 64) rfl))) rfl
theorem ml_7_47 : Cond.methodLink (fhrx 7) 47 yX8_open ∈ fhtbl := fhm (in_t (in_3 (List.mem_of_getElem? (i := 68) rfl))) rfl
theorem ml_8_36 : Cond.methodLink (fhrx 8) 36 yX2_get ∈ fhtbl := fhm (in_t (in_3 (List.mem_of_getElem? (i := 72) rfl))) rfl
theorem ml_8_40 : Cond.methodLink (fhrx 8) 40 yX8_cutPiece ∈ fhtbl := fhm (in_t (in_3 (List.mem_of_getElem? (i := 73) rfl))) rfl
theorem ml_8_47 : Cond.methodLink (fhrx 8) 47 yX8_sortOf ∈ fhtbl := fhm (in_t (in_3 (List.mem_of_getElem? (i := 77) rfl))) rfl
theorem ml_8_50 : Cond.methodLink (fhrx 8) 50 yX8_packLetters ∈ fhtbl := fhm (in_t (in_3 (List.mem_of_getElem? (i := 80) rfl))) rfl
theorem ml_8_54 : Cond.methodLink (fhrx 8) 54 yX2_put ∈ fhtbl := fhm (in_t (in_3 (List.mem_of_getElem? (i := 83) rfl))) rfl
theorem ml_8_58 : Cond.methodLink (fhrx 8) 58 yX8_numberOf ∈ fhtbl := fhm (in_t (in_3 (List.mem_of_getElem? (i := 84) rfl))) rfl
theorem ml_8_61 : Cond.methodLink (fhrx 8) 61 yX8_wordNumber ∈ fhtbl := fhm (in_t (in_3 (List.mem_of_getElem? (i := 87) rfl))) rfl
theorem ml_8_44 : Cond.methodLink (fhrx 8) 44 yX8_advance ∈ fhtbl := fhm (in_t (in_3 (List.mem_of_getElem? (i := 139) rfl))) rfl
theorem ml_11_128 : Cond.methodLink (fhrx 11) 128 yX8_isGoingOn ∈ fhtbl := fhm (in_t (in_3 (List.mem_of_getElem? (i := 143) rfl))) rfl
theorem ml_11_132 : Cond.methodLink (fhrx 11) 132 yX7_readStatement ∈ fhtbl := fhm (in_t (in_3 (List.mem_of_getElem? (i := 147) rfl))) rfl
theorem ml_7_100 : Cond.methodLink (fhrx 7) 100 yX7_statementWord ∈ fhtbl := fhm (in_t (in_3 (List.mem_of_getElem? (i := 151) rfl))) rfl
theorem ml_7_131 : Cond.methodLink (fhrx 7) 131 yX8_wordHere ∈ fhtbl := fhm (in_t (in_3 (List.mem_of_getElem? (i := 155) rfl))) rfl
theorem ml_7_137 : Cond.methodLink (fhrx 7) 137 yX8_fail ∈ fhtbl := fhm (in_t (in_3 (List.mem_of_getElem? (i := 159) rfl))) rfl
theorem ml_7_140 : Cond.methodLink (fhrx 7) 140 yX8_failHere ∈ fhtbl := fhm (in_t (in_3 (List.mem_of_getElem? (i := 163) rfl))) rfl
theorem ml_8_81 : Cond.methodLink (fhrx 8) 81 yX8_fail ∈ fhtbl := fhm (in_t (in_3 (List.mem_of_getElem? (i := 167) rfl))) rfl
theorem ml_7_104 : Cond.methodLink (fhrx 7) 104 yX8_advance ∈ fhtbl := fhm (in_t (in_3 (List.mem_of_getElem? (i := 168) rfl))) rfl
theorem ml_7_107 : Cond.methodLink (fhrx 7) 107 yX8_takeNumberWithin ∈ fhtbl := fhm (in_t (in_3 (List.mem_of_getElem? (i := 169) rfl))) rfl
theorem ml_8_104 : Cond.methodLink (fhrx 8) 104 yX8_takeNumber ∈ fhtbl := fhm (in_t (in_3 (List.mem_of_getElem? (i := 173) rfl))) rfl
theorem ml_8_97 : Cond.methodLink (fhrx 8) 97 yX8_failHere ∈ fhtbl := fhm (in_t (in_3 (List.mem_of_getElem? (i := 177) rfl))) rfl
theorem ml_7_111 : Cond.methodLink (fhrx 7) 111 yX7_readGuest ∈ fhtbl := fhm (in_t (in_3 (List.mem_of_getElem? (i := 178) rfl))) rfl
theorem ml_7_146 : Cond.methodLink (fhrx 7) 146 yX8_takeName ∈ fhtbl := fhm (in_t (in_3 (List.mem_of_getElem? (i := 182) rfl))) rfl
theorem ml_7_149 : Cond.methodLink (fhrx 7) 149 yX7_guestNamed ∈ fhtbl := fhm (in_t (in_3 (List.mem_of_getElem? (i := 186) rfl))) rfl
theorem ml_7_156 : Cond.methodLink (fhrx 7) 156 yX2_get ∈ fhtbl := fhm (in_t (in_3 (List.mem_of_getElem? (i := 190) rfl))) rfl
theorem ml_7_153 : Cond.methodLink (fhrx 7) 153 yX8_takeWord ∈ fhtbl := fhm (in_t (in_3 (List.mem_of_getElem? (i := 191) rfl))) rfl
theorem ml_8_93 : Cond.methodLink (fhrx 8) 93 yX8_isWord ∈ fhtbl := fhm (in_t (in_3 (List.mem_of_getElem? (i := 195) rfl))) rfl
theorem ml_7_143 : Cond.methodLink (fhrx 7) 143 yX2_put ∈ fhtbl := fhm (in_t (in_3 (List.mem_of_getElem? (i := 199) rfl))) rfl
theorem ml_7_114 : Cond.methodLink (fhrx 7) 114 yX7_readBlind ∈ fhtbl := fhm (in_t (in_3 (List.mem_of_getElem? (i := 200) rfl))) rfl
theorem ml_7_117 : Cond.methodLink (fhrx 7) 117 yX5_readTest ∈ fhtbl := fhm (in_t (in_3 (List.mem_of_getElem? (i := 204) rfl))) rfl
theorem ml_5_19 : Cond.methodLink (fhrx 5) 19 yX5_begin ∈ fhtbl := fhm (in_t (in_3 (List.mem_of_getElem? (i := 208) rfl))) rfl
theorem ml_5_32 : Cond.methodLink (fhrx 5) 32 yX5_test ∈ fhtbl := fhm (in_t (in_3 (List.mem_of_getElem? (i := 212) rfl))) rfl
theorem ml_5_57 : Cond.methodLink (fhrx 5) 57 yX5_both ∈ fhtbl := fhm (in_t (in_3 (List.mem_of_getElem? (i := 216) rfl))) rfl
theorem ml_5_70 : Cond.methodLink (fhrx 5) 70 yX5_claim ∈ fhtbl := fhm (in_t (in_3 (List.mem_of_getElem? (i := 220) rfl))) rfl
theorem ml_5_73 : Cond.methodLink (fhrx 5) 73 yX8_isSign ∈ fhtbl := fhm (in_t (in_3 (List.mem_of_getElem? (i := 224) rfl))) rfl
theorem ml_5_77 : Cond.methodLink (fhrx 5) 77 yX5_goDeeper ∈ fhtbl := fhm (in_t (in_3 (List.mem_of_getElem? (i := 228) rfl))) rfl
theorem ml_5_90 : Cond.methodLink (fhrx 5) 90 yX8_fail ∈ fhtbl := fhm (in_t (in_3 (List.mem_of_getElem? (i := 232) rfl))) rfl
theorem ml_5_29 : Cond.methodLink (fhrx 5) 29 yX8_advance ∈ fhtbl := fhm (in_t (in_3 (List.mem_of_getElem? (i := 233) rfl))) rfl
theorem ml_5_80 : Cond.methodLink (fhrx 5) 80 yX8_takeSign ∈ fhtbl := fhm (in_t (in_3 (List.mem_of_getElem? (i := 234) rfl))) rfl
theorem ml_8_100 : Cond.methodLink (fhrx 8) 100 yX8_isSign ∈ fhtbl := fhm (in_t (in_3 (List.mem_of_getElem? (i := 238) rfl))) rfl
theorem ml_5_60 : Cond.methodLink (fhrx 5) 60 yX8_isWord ∈ fhtbl := fhm (in_t (in_3 (List.mem_of_getElem? (i := 239) rfl))) rfl
theorem ml_5_64 : Cond.methodLink (fhrx 5) 64 yX3_add ∈ fhtbl := fhm (in_t (in_4 (List.mem_of_getElem? (i := 0) rfl))) rfl
theorem ml_3_24 : Cond.methodLink (fhrx 3) 24 yX2_put ∈ fhtbl := fhm (in_t (in_4 (List.mem_of_getElem? (i := 4) rfl))) rfl
theorem ml_5_35 : Cond.methodLink (fhrx 5) 35 yX5_sum ∈ fhtbl := fhm (in_t (in_4 (List.mem_of_getElem? (i := 8) rfl))) rfl
theorem ml_5_93 : Cond.methodLink (fhrx 5) 93 yX5_product ∈ fhtbl := fhm (in_t (in_4 (List.mem_of_getElem? (i := 12) rfl))) rfl
theorem ml_5_96 : Cond.methodLink (fhrx 5) 96 yX5_part ∈ fhtbl := fhm (in_t (in_4 (List.mem_of_getElem? (i := 16) rfl))) rfl
theorem ml_5_99 : Cond.methodLink (fhrx 5) 99 yX8_isNumber ∈ fhtbl := fhm (in_t (in_4 (List.mem_of_getElem? (i := 20) rfl))) rfl
theorem ml_5_102 : Cond.methodLink (fhrx 5) 102 yX8_takeNumber ∈ fhtbl := fhm (in_t (in_4 (List.mem_of_getElem? (i := 24) rfl))) rfl
theorem ml_5_105 : Cond.methodLink (fhrx 5) 105 yX5_pair ∈ fhtbl := fhm (in_t (in_4 (List.mem_of_getElem? (i := 25) rfl))) rfl
theorem ml_5_38 : Cond.methodLink (fhrx 5) 38 yX8_failHere ∈ fhtbl := fhm (in_t (in_4 (List.mem_of_getElem? (i := 29) rfl))) rfl
theorem ml_5_109 : Cond.methodLink (fhrx 5) 109 yX5_isLookingWord ∈ fhtbl := fhm (in_t (in_4 (List.mem_of_getElem? (i := 30) rfl))) rfl
theorem ml_5_112 : Cond.methodLink (fhrx 5) 112 yX5_lookup ∈ fhtbl := fhm (in_t (in_4 (List.mem_of_getElem? (i := 34) rfl))) rfl
theorem ml_5_115 : Cond.methodLink (fhrx 5) 115 yX5_leaf ∈ fhtbl := fhm (in_t (in_4 (List.mem_of_getElem? (i := 38) rfl))) rfl
theorem ml_5_23 : Cond.methodLink (fhrx 5) 23 yX8_wordHere ∈ fhtbl := fhm (in_t (in_4 (List.mem_of_getElem? (i := 42) rfl))) rfl
theorem ml_5_118 : Cond.methodLink (fhrx 5) 118 yX8_lettersHere ∈ fhtbl := fhm (in_t (in_4 (List.mem_of_getElem? (i := 43) rfl))) rfl
theorem ml_5_121 : Cond.methodLink (fhrx 5) 121 yX7_guestNamed ∈ fhtbl := fhm (in_t (in_4 (List.mem_of_getElem? (i := 47) rfl))) rfl
theorem ml_5_84 : Cond.methodLink (fhrx 5) 84 yX5_signHere ∈ fhtbl := fhm (in_t (in_4 (List.mem_of_getElem? (i := 48) rfl))) rfl
theorem ml_7_123 : Cond.methodLink (fhrx 7) 123 yX7_noteTest ∈ fhtbl := fhm (in_t (in_4 (List.mem_of_getElem? (i := 52) rfl))) rfl
theorem ml_7_127 : Cond.methodLink (fhrx 7) 127 yX8_takeSign ∈ fhtbl := fhm (in_t (in_4 (List.mem_of_getElem? (i := 56) rfl))) rfl
theorem ml_11_135 : Cond.methodLink (fhrx 11) 135 yX7_close ∈ fhtbl := fhm (in_t (in_4 (List.mem_of_getElem? (i := 57) rfl))) rfl
theorem ml_7_57 : Cond.methodLink (fhrx 7) 57 yX8_failAtEnd ∈ fhtbl := fhm (in_t (in_4 (List.mem_of_getElem? (i := 61) rfl))) rfl
theorem ml_7_72 : Cond.methodLink (fhrx 7) 72 yX10_fillFromRow ∈ fhtbl := fhm (in_t (in_4 (List.mem_of_getElem? (i := 65) rfl))) rfl
theorem ml_10_23 : Cond.methodLink (fhrx 10) 23 yX2_wipe ∈ fhtbl := fhm (in_t (in_4 (List.mem_of_getElem? (i := 69) rfl))) rfl
theorem ml_10_26 : Cond.methodLink (fhrx 10) 26 yX2_put ∈ fhtbl := fhm (in_t (in_4 (List.mem_of_getElem? (i := 70) rfl))) rfl
theorem ml_10_30 : Cond.methodLink (fhrx 10) 30 yX2_get ∈ fhtbl := fhm (in_t (in_4 (List.mem_of_getElem? (i := 71) rfl))) rfl
theorem ml_10_43 : Cond.methodLink (fhrx 10) 43 yX10_countKinds ∈ fhtbl := fhm (in_t (in_4 (List.mem_of_getElem? (i := 74) rfl))) rfl
theorem ml_7_78 : Cond.methodLink (fhrx 7) 78 yX7_rulesHold ∈ fhtbl := fhm (in_t (in_4 (List.mem_of_getElem? (i := 78) rfl))) rfl
theorem ml_7_159 : Cond.methodLink (fhrx 7) 159 yX10_value ∈ fhtbl := fhm (in_t (in_4 (List.mem_of_getElem? (i := 82) rfl))) rfl
theorem ml_10_85 : Cond.methodLink (fhrx 10) 85 yX10_work ∈ fhtbl := fhm (in_t (in_4 (List.mem_of_getElem? (i := 86) rfl))) rfl
theorem ml_10_92 : Cond.methodLink (fhrx 10) 92 yX10_push ∈ fhtbl := fhm (in_t (in_4 (List.mem_of_getElem? (i := 90) rfl))) rfl
theorem ml_10_88 : Cond.methodLink (fhrx 10) 88 yX10_pop ∈ fhtbl := fhm (in_t (in_4 (List.mem_of_getElem? (i := 94) rfl))) rfl
theorem ml_10_95 : Cond.methodLink (fhrx 10) 95 yX10_reckon ∈ fhtbl := fhm (in_t (in_4 (List.mem_of_getElem? (i := 98) rfl))) rfl
theorem ml_10_102 : Cond.methodLink (fhrx 10) 102 yX10_hold ∈ fhtbl := fhm (in_t (in_4 (List.mem_of_getElem? (i := 101) rfl))) rfl
theorem ml_10_106 : Cond.methodLink (fhrx 10) 106 yJ9_floorDiv_7cf53 ∈ fhtbl := fhm (in_t (in_4 (List.mem_of_getElem? (i := 112) rfl))) rfl
theorem ml_10_99 : Cond.methodLink (fhrx 10) 99 yX10_judge ∈ fhtbl := fhm (in_t (in_4 (List.mem_of_getElem? (i := 115) rfl))) rfl
theorem ml_11_139 : Cond.methodLink (fhrx 11) 139 yX11_noteFault ∈ fhtbl := fhm (in_t (in_4 (List.mem_of_getElem? (i := 118) rfl))) rfl
theorem ml_11_149 : Cond.methodLink (fhrx 11) 149 yX9_build ∈ fhtbl := fhm (in_t (in_4 (List.mem_of_getElem? (i := 122) rfl))) rfl
theorem ml_9_56 : Cond.methodLink (fhrx 9) 56 yX2_put ∈ fhtbl := fhm (in_t (in_4 (List.mem_of_getElem? (i := 126) rfl))) rfl
theorem ml_9_60 : Cond.methodLink (fhrx 9) 60 yX2_get ∈ fhtbl := fhm (in_t (in_4 (List.mem_of_getElem? (i := 127) rfl))) rfl
theorem ml_9_64 : Cond.methodLink (fhrx 9) 64 yX7_seenBy ∈ fhtbl := fhm (in_t (in_4 (List.mem_of_getElem? (i := 128) rfl))) rfl
theorem ml_9_76 : Cond.methodLink (fhrx 9) 76 yX2_wipe ∈ fhtbl := fhm (in_t (in_4 (List.mem_of_getElem? (i := 133) rfl))) rfl
theorem ml_9_82 : Cond.methodLink (fhrx 9) 82 yX9_fillViews ∈ fhtbl := fhm (in_t (in_4 (List.mem_of_getElem? (i := 134) rfl))) rfl
theorem ml_9_99 : Cond.methodLink (fhrx 9) 99 yX9_markOf ∈ fhtbl := fhm (in_t (in_4 (List.mem_of_getElem? (i := 138) rfl))) rfl
theorem ml_9_85 : Cond.methodLink (fhrx 9) 85 yX10_fillFromRow ∈ fhtbl := fhm (in_t (in_4 (List.mem_of_getElem? (i := 142) rfl))) rfl
theorem ml_9_91 : Cond.methodLink (fhrx 9) 91 yX7_rulesHold ∈ fhtbl := fhm (in_t (in_4 (List.mem_of_getElem? (i := 143) rfl))) rfl
theorem ml_9_95 : Cond.methodLink (fhrx 9) 95 yX7_truthBits ∈ fhtbl := fhm (in_t (in_4 (List.mem_of_getElem? (i := 144) rfl))) rfl
theorem ml_11_156 : Cond.methodLink (fhrx 11) 156 yX4_begin ∈ fhtbl := fhm (in_t (in_4 (List.mem_of_getElem? (i := 148) rfl))) rfl
theorem ml_4_55 : Cond.methodLink (fhrx 4) 55 yX2_get ∈ fhtbl := fhm (in_t (in_4 (List.mem_of_getElem? (i := 152) rfl))) rfl
theorem ml_4_59 : Cond.methodLink (fhrx 4) 59 yX2_put ∈ fhtbl := fhm (in_t (in_4 (List.mem_of_getElem? (i := 153) rfl))) rfl
theorem ml_4_72 : Cond.methodLink (fhrx 4) 72 yX4_settle ∈ fhtbl := fhm (in_t (in_4 (List.mem_of_getElem? (i := 154) rfl))) rfl
theorem ml_4_75 : Cond.methodLink (fhrx 4) 75 yX9_findKnowers ∈ fhtbl := fhm (in_t (in_4 (List.mem_of_getElem? (i := 158) rfl))) rfl
theorem ml_9_106 : Cond.methodLink (fhrx 9) 106 yX9_viewOf ∈ fhtbl := fhm (in_t (in_4 (List.mem_of_getElem? (i := 162) rfl))) rfl
theorem ml_9_109 : Cond.methodLink (fhrx 9) 109 yJ6_bitCount_0f7a4 ∈ fhtbl := fhm (in_t (in_4 (List.mem_of_getElem? (i := 166) rfl))) rfl
theorem ml_4_79 : Cond.methodLink (fhrx 4) 79 yX0_forget ∈ fhtbl := fhm (in_t (in_4 (List.mem_of_getElem? (i := 172) rfl))) rfl
theorem ml_11_159 : Cond.methodLink (fhrx 11) 159 yX1_forget ∈ fhtbl := fhm (in_t (in_4 (List.mem_of_getElem? (i := 176) rfl))) rfl
theorem ml_11_162 : Cond.methodLink (fhrx 11) 162 yX6_wipe ∈ fhtbl := fhm (in_t (in_4 (List.mem_of_getElem? (i := 180) rfl))) rfl
theorem ml_15_28 : Cond.methodLink (fhrx 15) 28 yX11_fault ∈ fhtbl := fhm (in_t (in_4 (List.mem_of_getElem? (i := 185) rfl))) rfl
theorem ml_15_33 : Cond.methodLink (fhrx 15) 33 yX11_has ∈ fhtbl := fhm (in_t (in_4 (List.mem_of_getElem? (i := 189) rfl))) rfl
theorem ml_11_195 : Cond.methodLink (fhrx 11) 195 yX4_knowers ∈ fhtbl := fhm (in_t (in_4 (List.mem_of_getElem? (i := 193) rfl))) rfl
theorem ml_11_198 : Cond.methodLink (fhrx 11) 198 yJ6_bitCount_0f7a4 ∈ fhtbl := fhm (in_t (in_4 (List.mem_of_getElem? (i := 197) rfl))) rfl
theorem ml_11_203 : Cond.methodLink (fhrx 11) 203 yX6_toldCount ∈ fhtbl := fhm (in_t (in_4 (List.mem_of_getElem? (i := 198) rfl))) rfl
theorem ml_15_37 : Cond.methodLink (fhrx 15) 37 yX11_letter ∈ fhtbl := fhm (in_t (in_4 (List.mem_of_getElem? (i := 203) rfl))) rfl
theorem ml_11_212 : Cond.methodLink (fhrx 11) 212 yX11_isGuest ∈ fhtbl := fhm (in_t (in_4 (List.mem_of_getElem? (i := 207) rfl))) rfl
theorem ml_15_42 : Cond.methodLink (fhrx 15) 42 yX11_guest ∈ fhtbl := fhm (in_t (in_4 (List.mem_of_getElem? (i := 211) rfl))) rfl
theorem ml_11_220 : Cond.methodLink (fhrx 11) 220 yX9_markOf ∈ fhtbl := fhm (in_t (in_4 (List.mem_of_getElem? (i := 215) rfl))) rfl
theorem ml_11_227 : Cond.methodLink (fhrx 11) 227 yX4_countRowsOf ∈ fhtbl := fhm (in_t (in_4 (List.mem_of_getElem? (i := 216) rfl))) rfl
theorem ml_4_90 : Cond.methodLink (fhrx 4) 90 yX4_isRowOf ∈ fhtbl := fhm (in_t (in_4 (List.mem_of_getElem? (i := 220) rfl))) rfl
theorem ml_4_86 : Cond.methodLink (fhrx 4) 86 yX9_viewOf ∈ fhtbl := fhm (in_t (in_4 (List.mem_of_getElem? (i := 224) rfl))) rfl
theorem ml_11_230 : Cond.methodLink (fhrx 11) 230 yX4_isKnower ∈ fhtbl := fhm (in_t (in_4 (List.mem_of_getElem? (i := 225) rfl))) rfl
theorem ml_4_82 : Cond.methodLink (fhrx 4) 82 yX4_knowers ∈ fhtbl := fhm (in_t (in_4 (List.mem_of_getElem? (i := 229) rfl))) rfl
theorem ml_11_233 : Cond.methodLink (fhrx 11) 233 yX11_one ∈ fhtbl := fhm (in_t (in_4 (List.mem_of_getElem? (i := 230) rfl))) rfl
theorem ml_11_237 : Cond.methodLink (fhrx 11) 237 yX4_marksHeld ∈ fhtbl := fhm (in_t (in_4 (List.mem_of_getElem? (i := 233) rfl))) rfl
theorem ml_4_94 : Cond.methodLink (fhrx 4) 94 yX9_markOf ∈ fhtbl := fhm (in_t (in_4 (List.mem_of_getElem? (i := 237) rfl))) rfl
theorem ml_15_46 : Cond.methodLink (fhrx 15) 46 yX11_fact ∈ fhtbl := fhm (in_t (in_4 (List.mem_of_getElem? (i := 238) rfl))) rfl
theorem ml_11_240 : Cond.methodLink (fhrx 11) 240 yX11_isFact ∈ fhtbl := fhm (in_t (in_5 (List.mem_of_getElem? (i := 2) rfl))) rfl
theorem ml_11_243 : Cond.methodLink (fhrx 11) 243 yX9_holdsIn ∈ fhtbl := fhm (in_t (in_5 (List.mem_of_getElem? (i := 6) rfl))) rfl
theorem ml_11_250 : Cond.methodLink (fhrx 11) 250 yX4_countAlike ∈ fhtbl := fhm (in_t (in_5 (List.mem_of_getElem? (i := 10) rfl))) rfl
theorem ml_11_254 : Cond.methodLink (fhrx 11) 254 yX9_countHolding ∈ fhtbl := fhm (in_t (in_5 (List.mem_of_getElem? (i := 14) rfl))) rfl
theorem ml_9_102 : Cond.methodLink (fhrx 9) 102 yX9_holdsIn ∈ fhtbl := fhm (in_t (in_5 (List.mem_of_getElem? (i := 18) rfl))) rfl
theorem ml_15_50 : Cond.methodLink (fhrx 15) 50 yX11_left ∈ fhtbl := fhm (in_t (in_5 (List.mem_of_getElem? (i := 19) rfl))) rfl
theorem ml_15_54 : Cond.methodLink (fhrx 15) 54 yX11_wears ∈ fhtbl := fhm (in_t (in_5 (List.mem_of_getElem? (i := 23) rfl))) rfl
theorem ml_15_58 : Cond.methodLink (fhrx 15) 58 yX11_kept ∈ fhtbl := fhm (in_t (in_5 (List.mem_of_getElem? (i := 27) rfl))) rfl
theorem ml_11_263 : Cond.methodLink (fhrx 11) 263 yX6_entry ∈ fhtbl := fhm (in_t (in_5 (List.mem_of_getElem? (i := 31) rfl))) rfl
theorem ml_6_43 : Cond.methodLink (fhrx 6) 43 yX6_toldCount ∈ fhtbl := fhm (in_t (in_5 (List.mem_of_getElem? (i := 35) rfl))) rfl
theorem ml_6_47 : Cond.methodLink (fhrx 6) 47 yX2_get ∈ fhtbl := fhm (in_t (in_5 (List.mem_of_getElem? (i := 36) rfl))) rfl
theorem ml_15_62 : Cond.methodLink (fhrx 15) 62 yX11_knows ∈ fhtbl := fhm (in_t (in_5 (List.mem_of_getElem? (i := 37) rfl))) rfl
theorem ml_11_266 : Cond.methodLink (fhrx 11) 266 yX11_isPair ∈ fhtbl := fhm (in_t (in_5 (List.mem_of_getElem? (i := 41) rfl))) rfl
theorem ml_11_269 : Cond.methodLink (fhrx 11) 269 yX4_knowsOf ∈ fhtbl := fhm (in_t (in_5 (List.mem_of_getElem? (i := 45) rfl))) rfl
theorem ml_15_66 : Cond.methodLink (fhrx 15) 66 yX11_deep ∈ fhtbl := fhm (in_t (in_5 (List.mem_of_getElem? (i := 49) rfl))) rfl
theorem ml_11_272 : Cond.methodLink (fhrx 11) 272 yX4_depth ∈ fhtbl := fhm (in_t (in_5 (List.mem_of_getElem? (i := 53) rfl))) rfl
theorem ml_4_100 : Cond.methodLink (fhrx 4) 100 yX4_deepen ∈ fhtbl := fhm (in_t (in_5 (List.mem_of_getElem? (i := 57) rfl))) rfl
theorem ml_15_70 : Cond.methodLink (fhrx 15) 70 yX11_later ∈ fhtbl := fhm (in_t (in_5 (List.mem_of_getElem? (i := 61) rfl))) rfl
theorem ml_11_275 : Cond.methodLink (fhrx 11) 275 yX4_lookAhead ∈ fhtbl := fhm (in_t (in_5 (List.mem_of_getElem? (i := 65) rfl))) rfl
theorem ml_4_106 : Cond.methodLink (fhrx 4) 106 yX0_prepare ∈ fhtbl := fhm (in_t (in_5 (List.mem_of_getElem? (i := 69) rfl))) rfl
theorem ml_0_30 : Cond.methodLink (fhrx 0) 30 yX0_start ∈ fhtbl := fhm (in_t (in_5 (List.mem_of_getElem? (i := 73) rfl))) rfl
theorem ml_0_56 : Cond.methodLink (fhrx 0) 56 yX2_get ∈ fhtbl := fhm (in_t (in_5 (List.mem_of_getElem? (i := 77) rfl))) rfl
theorem ml_0_69 : Cond.methodLink (fhrx 0) 69 yX2_put ∈ fhtbl := fhm (in_t (in_5 (List.mem_of_getElem? (i := 78) rfl))) rfl
theorem ml_0_47 : Cond.methodLink (fhrx 0) 47 yX9_findKnowers ∈ fhtbl := fhm (in_t (in_5 (List.mem_of_getElem? (i := 79) rfl))) rfl
theorem ml_0_73 : Cond.methodLink (fhrx 0) 73 yX0_shrinkTo ∈ fhtbl := fhm (in_t (in_5 (List.mem_of_getElem? (i := 81) rfl))) rfl
theorem ml_15_74 : Cond.methodLink (fhrx 15) 74 yX11_learns ∈ fhtbl := fhm (in_t (in_5 (List.mem_of_getElem? (i := 85) rfl))) rfl
theorem ml_15_78 : Cond.methodLink (fhrx 15) 78 yX11_rests ∈ fhtbl := fhm (in_t (in_5 (List.mem_of_getElem? (i := 89) rfl))) rfl
theorem ml_15_82 : Cond.methodLink (fhrx 15) 82 yX11_hints ∈ fhtbl := fhm (in_t (in_5 (List.mem_of_getElem? (i := 93) rfl))) rfl
theorem ml_11_287 : Cond.methodLink (fhrx 11) 287 yX4_fewestFacts ∈ fhtbl := fhm (in_t (in_5 (List.mem_of_getElem? (i := 97) rfl))) rfl
theorem ml_4_110 : Cond.methodLink (fhrx 4) 110 yX4_gatherDoubts ∈ fhtbl := fhm (in_t (in_5 (List.mem_of_getElem? (i := 101) rfl))) rfl
theorem ml_4_126 : Cond.methodLink (fhrx 4) 126 yX2_wipe ∈ fhtbl := fhm (in_t (in_5 (List.mem_of_getElem? (i := 105) rfl))) rfl
theorem ml_4_117 : Cond.methodLink (fhrx 4) 117 yJ6_bitCount_0f7a4 ∈ fhtbl := fhm (in_t (in_5 (List.mem_of_getElem? (i := 106) rfl))) rfl
theorem ml_4_122 : Cond.methodLink (fhrx 4) 122 yX4_isCleared ∈ fhtbl := fhm (in_t (in_5 (List.mem_of_getElem? (i := 107) rfl))) rfl
theorem ml_15_86 : Cond.methodLink (fhrx 15) 86 yX11_secret ∈ fhtbl := fhm (in_t (in_5 (List.mem_of_getElem? (i := 111) rfl))) rfl
theorem ml_15_90 : Cond.methodLink (fhrx 15) 90 yX11_speaker ∈ fhtbl := fhm (in_t (in_5 (List.mem_of_getElem? (i := 115) rfl))) rfl
theorem ml_11_290 : Cond.methodLink (fhrx 11) 290 yX4_bestSpeaker ∈ fhtbl := fhm (in_t (in_5 (List.mem_of_getElem? (i := 119) rfl))) rfl
theorem ml_4_132 : Cond.methodLink (fhrx 4) 132 yX4_countAlike ∈ fhtbl := fhm (in_t (in_5 (List.mem_of_getElem? (i := 123) rfl))) rfl
theorem ml_15_94 : Cond.methodLink (fhrx 15) 94 yX11_slowest ∈ fhtbl := fhm (in_t (in_5 (List.mem_of_getElem? (i := 124) rfl))) rfl
theorem ml_11_296 : Cond.methodLink (fhrx 11) 296 yX1_prepare ∈ fhtbl := fhm (in_t (in_5 (List.mem_of_getElem? (i := 128) rfl))) rfl
theorem ml_1_53 : Cond.methodLink (fhrx 1) 53 yX1_start ∈ fhtbl := fhm (in_t (in_5 (List.mem_of_getElem? (i := 132) rfl))) rfl
theorem ml_1_70 : Cond.methodLink (fhrx 1) 70 yX2_get ∈ fhtbl := fhm (in_t (in_5 (List.mem_of_getElem? (i := 136) rfl))) rfl
theorem ml_1_74 : Cond.methodLink (fhrx 1) 74 yX2_put ∈ fhtbl := fhm (in_t (in_5 (List.mem_of_getElem? (i := 137) rfl))) rfl
theorem ml_1_59 : Cond.methodLink (fhrx 1) 59 yX1_splitGroups ∈ fhtbl := fhm (in_t (in_5 (List.mem_of_getElem? (i := 138) rfl))) rfl
theorem ml_1_81 : Cond.methodLink (fhrx 1) 81 yX9_findKnowers ∈ fhtbl := fhm (in_t (in_5 (List.mem_of_getElem? (i := 142) rfl))) rfl
theorem ml_1_85 : Cond.methodLink (fhrx 1) 85 yX1_noteKnowers ∈ fhtbl := fhm (in_t (in_5 (List.mem_of_getElem? (i := 143) rfl))) rfl
theorem ml_1_89 : Cond.methodLink (fhrx 1) 89 yX1_splitGroup ∈ fhtbl := fhm (in_t (in_5 (List.mem_of_getElem? (i := 148) rfl))) rfl
theorem ml_11_299 : Cond.methodLink (fhrx 11) 299 yX1_slowestRow ∈ fhtbl := fhm (in_t (in_5 (List.mem_of_getElem? (i := 152) rfl))) rfl
theorem ml_1_101 : Cond.methodLink (fhrx 1) 101 yX1_firstKnown ∈ fhtbl := fhm (in_t (in_5 (List.mem_of_getElem? (i := 156) rfl))) rfl
theorem ml_11_302 : Cond.methodLink (fhrx 11) 302 yX1_firstKnown ∈ fhtbl := fhm (in_t (in_5 (List.mem_of_getElem? (i := 160) rfl))) rfl
theorem ml_15_98 : Cond.methodLink (fhrx 15) 98 yX11_odds ∈ fhtbl := fhm (in_t (in_5 (List.mem_of_getElem? (i := 161) rfl))) rfl
theorem ml_11_304 : Cond.methodLink (fhrx 11) 304 yX1_countKnowing ∈ fhtbl := fhm (in_t (in_5 (List.mem_of_getElem? (i := 165) rfl))) rfl
theorem ml_15_102 : Cond.methodLink (fhrx 15) 102 yX11_hear ∈ fhtbl := fhm (in_t (in_5 (List.mem_of_getElem? (i := 169) rfl))) rfl
theorem ml_11_307 : Cond.methodLink (fhrx 11) 307 yX1_listen ∈ fhtbl := fhm (in_t (in_5 (List.mem_of_getElem? (i := 173) rfl))) rfl
theorem ml_15_106 : Cond.methodLink (fhrx 15) 106 yX11_fits ∈ fhtbl := fhm (in_t (in_5 (List.mem_of_getElem? (i := 177) rfl))) rfl
theorem ml_11_311 : Cond.methodLink (fhrx 11) 311 yX1_findFitting ∈ fhtbl := fhm (in_t (in_5 (List.mem_of_getElem? (i := 181) rfl))) rfl
theorem ml_1_104 : Cond.methodLink (fhrx 1) 104 yX1_prepare ∈ fhtbl := fhm (in_t (in_5 (List.mem_of_getElem? (i := 185) rfl))) rfl
theorem ml_1_110 : Cond.methodLink (fhrx 1) 110 yX1_isFitting ∈ fhtbl := fhm (in_t (in_5 (List.mem_of_getElem? (i := 186) rfl))) rfl
theorem ml_15_110 : Cond.methodLink (fhrx 15) 110 yX11_could ∈ fhtbl := fhm (in_t (in_5 (List.mem_of_getElem? (i := 190) rfl))) rfl
theorem ml_11_320 : Cond.methodLink (fhrx 11) 320 yX1_marksFitting ∈ fhtbl := fhm (in_t (in_5 (List.mem_of_getElem? (i := 194) rfl))) rfl
theorem ml_1_114 : Cond.methodLink (fhrx 1) 114 yX9_markOf ∈ fhtbl := fhm (in_t (in_5 (List.mem_of_getElem? (i := 198) rfl))) rfl
theorem ml_15_114 : Cond.methodLink (fhrx 15) 114 yX11_tells ∈ fhtbl := fhm (in_t (in_5 (List.mem_of_getElem? (i := 199) rfl))) rfl
theorem ml_11_323 : Cond.methodLink (fhrx 11) 323 yX1_bestTelling ∈ fhtbl := fhm (in_t (in_5 (List.mem_of_getElem? (i := 203) rfl))) rfl
theorem ml_1_117 : Cond.methodLink (fhrx 1) 117 yX1_mostLeft ∈ fhtbl := fhm (in_t (in_5 (List.mem_of_getElem? (i := 207) rfl))) rfl
theorem ml_11_326 : Cond.methodLink (fhrx 11) 326 yX1_mostLeft ∈ fhtbl := fhm (in_t (in_5 (List.mem_of_getElem? (i := 212) rfl))) rfl
theorem ml_15_118 : Cond.methodLink (fhrx 15) 118 yX11_round ∈ fhtbl := fhm (in_t (in_5 (List.mem_of_getElem? (i := 213) rfl))) rfl
theorem ml_11_329 : Cond.methodLink (fhrx 11) 329 yX6_save ∈ fhtbl := fhm (in_t (in_5 (List.mem_of_getElem? (i := 217) rfl))) rfl
theorem ml_6_33 : Cond.methodLink (fhrx 6) 33 yX2_put ∈ fhtbl := fhm (in_t (in_5 (List.mem_of_getElem? (i := 221) rfl))) rfl
theorem ml_11_333 : Cond.methodLink (fhrx 11) 333 yX11_playRound ∈ fhtbl := fhm (in_t (in_5 (List.mem_of_getElem? (i := 222) rfl))) rfl
theorem ml_11_336 : Cond.methodLink (fhrx 11) 336 yX4_keepAlike ∈ fhtbl := fhm (in_t (in_5 (List.mem_of_getElem? (i := 226) rfl))) rfl
theorem ml_11_339 : Cond.methodLink (fhrx 11) 339 yX6_write ∈ fhtbl := fhm (in_t (in_5 (List.mem_of_getElem? (i := 230) rfl))) rfl
theorem ml_15_122 : Cond.methodLink (fhrx 15) 122 yX11_says ∈ fhtbl := fhm (in_t (in_5 (List.mem_of_getElem? (i := 234) rfl))) rfl
theorem ml_15_126 : Cond.methodLink (fhrx 15) 126 yX11_tell ∈ fhtbl := fhm (in_t (in_5 (List.mem_of_getElem? (i := 238) rfl))) rfl
theorem ml_15_130 : Cond.methodLink (fhrx 15) 130 yX11_wear ∈ fhtbl := fhm (in_t (in_6 (List.mem_of_getElem? (i := 2) rfl))) rfl
theorem ml_11_343 : Cond.methodLink (fhrx 11) 343 yX9_withMark ∈ fhtbl := fhm (in_t (in_6 (List.mem_of_getElem? (i := 6) rfl))) rfl
theorem ml_11_347 : Cond.methodLink (fhrx 11) 347 yX9_isAllowed ∈ fhtbl := fhm (in_t (in_6 (List.mem_of_getElem? (i := 10) rfl))) rfl
theorem ml_15_135 : Cond.methodLink (fhrx 15) 135 yX11_chance ∈ fhtbl := fhm (in_t (in_6 (List.mem_of_getElem? (i := 14) rfl))) rfl
theorem ml_11_350 : Cond.methodLink (fhrx 11) 350 yX11_draw ∈ fhtbl := fhm (in_t (in_6 (List.mem_of_getElem? (i := 18) rfl))) rfl
theorem ml_15_139 : Cond.methodLink (fhrx 15) 139 yX11_deal ∈ fhtbl := fhm (in_t (in_6 (List.mem_of_getElem? (i := 24) rfl))) rfl
theorem ml_15_143 : Cond.methodLink (fhrx 15) 143 yX11_undo ∈ fhtbl := fhm (in_t (in_6 (List.mem_of_getElem? (i := 28) rfl))) rfl
theorem ml_11_361 : Cond.methodLink (fhrx 11) 361 yX6_restore ∈ fhtbl := fhm (in_t (in_6 (List.mem_of_getElem? (i := 32) rfl))) rfl
theorem ml_6_74 : Cond.methodLink (fhrx 6) 74 yX4_settle ∈ fhtbl := fhm (in_t (in_6 (List.mem_of_getElem? (i := 36) rfl))) rfl
theorem ml_15_148 : Cond.methodLink (fhrx 15) 148 yX11_seed ∈ fhtbl := fhm (in_t (in_6 (List.mem_of_getElem? (i := 37) rfl))) rfl
theorem ml_15_152 : Cond.methodLink (fhrx 15) 152 yX11_ask ∈ fhtbl := fhm (in_t (in_6 (List.mem_of_getElem? (i := 41) rfl))) rfl
theorem ml_11_370 : Cond.methodLink (fhrx 11) 370 yX8_open ∈ fhtbl := fhm (in_t (in_6 (List.mem_of_getElem? (i := 46) rfl))) rfl
theorem ml_11_371 : Cond.methodLink (fhrx 11) 371 yX5_readQuestion ∈ fhtbl := fhm (in_t (in_6 (List.mem_of_getElem? (i := 47) rfl))) rfl
theorem ml_5_41 : Cond.methodLink (fhrx 5) 41 yX8_isEnd ∈ fhtbl := fhm (in_t (in_6 (List.mem_of_getElem? (i := 51) rfl))) rfl
theorem ml_11_375 : Cond.methodLink (fhrx 11) 375 yX11_answer ∈ fhtbl := fhm (in_t (in_6 (List.mem_of_getElem? (i := 55) rfl))) rfl
theorem ml_11_379 : Cond.methodLink (fhrx 11) 379 yX10_fillFromGuest ∈ fhtbl := fhm (in_t (in_6 (List.mem_of_getElem? (i := 59) rfl))) rfl
theorem ml_10_56 : Cond.methodLink (fhrx 10) 56 yX9_markOf ∈ fhtbl := fhm (in_t (in_6 (List.mem_of_getElem? (i := 63) rfl))) rfl
theorem ml_10_61 : Cond.methodLink (fhrx 10) 61 yX4_countRowsOf ∈ fhtbl := fhm (in_t (in_6 (List.mem_of_getElem? (i := 64) rfl))) rfl
theorem ml_10_64 : Cond.methodLink (fhrx 10) 64 yX4_isKnower ∈ fhtbl := fhm (in_t (in_6 (List.mem_of_getElem? (i := 65) rfl))) rfl
theorem ml_10_74 : Cond.methodLink (fhrx 10) 74 yX4_marksHeld ∈ fhtbl := fhm (in_t (in_6 (List.mem_of_getElem? (i := 66) rfl))) rfl
theorem ml_11_383 : Cond.methodLink (fhrx 11) 383 yX10_value ∈ fhtbl := fhm (in_t (in_6 (List.mem_of_getElem? (i := 67) rfl))) rfl
theorem ml_15_157 : Cond.methodLink (fhrx 15) 157 yX11_image ∈ fhtbl := fhm (in_t (in_6 (List.mem_of_getElem? (i := 70) rfl))) rfl
theorem ml_11_395 : Cond.methodLink (fhrx 11) 395 yX2_wipe ∈ fhtbl := fhm (in_t (in_6 (List.mem_of_getElem? (i := 74) rfl))) rfl
theorem ml_11_396 : Cond.methodLink (fhrx 11) 396 yX11_pictureSize ∈ fhtbl := fhm (in_t (in_6 (List.mem_of_getElem? (i := 75) rfl))) rfl
theorem ml_11_402 : Cond.methodLink (fhrx 11) 402 yX11_checkByte ∈ fhtbl := fhm (in_t (in_6 (List.mem_of_getElem? (i := 79) rfl))) rfl
theorem ml_15_161 : Cond.methodLink (fhrx 15) 161 yX11_octet ∈ fhtbl := fhm (in_t (in_6 (List.mem_of_getElem? (i := 82) rfl))) rfl
theorem ml_15_165 : Cond.methodLink (fhrx 15) 165 yX11_on ∈ fhtbl := fhm (in_t (in_6 (List.mem_of_getElem? (i := 86) rfl))) rfl
theorem ml_11_405 : Cond.methodLink (fhrx 11) 405 yX11_rowOfPicture ∈ fhtbl := fhm (in_t (in_6 (List.mem_of_getElem? (i := 90) rfl))) rfl
theorem ml_11_408 : Cond.methodLink (fhrx 11) 408 yX11_isLeftFitting ∈ fhtbl := fhm (in_t (in_6 (List.mem_of_getElem? (i := 94) rfl))) rfl
theorem ml_11_411 : Cond.methodLink (fhrx 11) 411 yX11_tapeBit ∈ fhtbl := fhm (in_t (in_6 (List.mem_of_getElem? (i := 98) rfl))) rfl
theorem ml_11_414 : Cond.methodLink (fhrx 11) 414 yX4_settle ∈ fhtbl := fhm (in_t (in_6 (List.mem_of_getElem? (i := 102) rfl))) rfl
theorem ml_15_169 : Cond.methodLink (fhrx 15) 169 yX11_status ∈ fhtbl := fhm (in_t (in_6 (List.mem_of_getElem? (i := 103) rfl))) rfl
theorem ml_15_17 : Cond.methodLink (fhrx 15) 17 yX12_feed ∈ fhtbl := fhm (in_t (in_7 (List.mem_of_getElem? (i := 208) rfl))) rfl
theorem ml_15_22 : Cond.methodLink (fhrx 15) 22 yX12_end ∈ fhtbl := fhm (in_t (in_7 (List.mem_of_getElem? (i := 212) rfl))) rfl
theorem ml_15_27 : Cond.methodLink (fhrx 15) 27 yX12_parlour ∈ fhtbl := fhm (in_t (in_7 (List.mem_of_getElem? (i := 216) rfl))) rfl
theorem ml_12_404 : Cond.methodLink (fhrx 12) 404 yX12_marksTold ∈ fhtbl := fhm (in_t (in_7 (List.mem_of_getElem? (i := 220) rfl))) rfl
theorem ml_12_327 : Cond.methodLink (fhrx 12) 327 yX12_asks ∈ fhtbl := fhm (in_t (in_7 (List.mem_of_getElem? (i := 224) rfl))) rfl
theorem ml_12_289 : Cond.methodLink (fhrx 12) 289 yX12_takes ∈ fhtbl := fhm (in_t (in_7 (List.mem_of_getElem? (i := 228) rfl))) rfl
theorem ml_12_285 : Cond.methodLink (fhrx 12) 285 yX12_isHere ∈ fhtbl := fhm (in_t (in_7 (List.mem_of_getElem? (i := 232) rfl))) rfl
theorem ml_12_274 : Cond.methodLink (fhrx 12) 274 yX12_look ∈ fhtbl := fhm (in_t (in_7 (List.mem_of_getElem? (i := 236) rfl))) rfl
theorem ml_12_278 : Cond.methodLink (fhrx 12) 278 yX12_isLetter ∈ fhtbl := fhm (in_t (in_8 (List.mem_of_getElem? (i := 0) rfl))) rfl
theorem ml_12_292 : Cond.methodLink (fhrx 12) 292 yX12_fail ∈ fhtbl := fhm (in_t (in_8 (List.mem_of_getElem? (i := 3) rfl))) rfl
theorem ml_12_331 : Cond.methodLink (fhrx 12) 331 yX12_number ∈ fhtbl := fhm (in_t (in_8 (List.mem_of_getElem? (i := 7) rfl))) rfl
theorem ml_12_299 : Cond.methodLink (fhrx 12) 299 yX12_isDigit ∈ fhtbl := fhm (in_t (in_8 (List.mem_of_getElem? (i := 11) rfl))) rfl
theorem ml_12_305 : Cond.methodLink (fhrx 12) 305 yX12_isIn ∈ fhtbl := fhm (in_t (in_8 (List.mem_of_getElem? (i := 14) rfl))) rfl
theorem ml_12_335 : Cond.methodLink (fhrx 12) 335 yX12_asksSign ∈ fhtbl := fhm (in_t (in_8 (List.mem_of_getElem? (i := 17) rfl))) rfl
theorem ml_12_296 : Cond.methodLink (fhrx 12) 296 yX12_takesSign ∈ fhtbl := fhm (in_t (in_8 (List.mem_of_getElem? (i := 21) rfl))) rfl
theorem ml_12_407 : Cond.methodLink (fhrx 12) 407 yX12_statementTold ∈ fhtbl := fhm (in_t (in_8 (List.mem_of_getElem? (i := 25) rfl))) rfl
theorem ml_12_371 : Cond.methodLink (fhrx 12) 371 yX12_guestTold ∈ fhtbl := fhm (in_t (in_8 (List.mem_of_getElem? (i := 29) rfl))) rfl
theorem ml_12_339 : Cond.methodLink (fhrx 12) 339 yX12_isFull ∈ fhtbl := fhm (in_t (in_8 (List.mem_of_getElem? (i := 33) rfl))) rfl
theorem ml_12_343 : Cond.methodLink (fhrx 12) 343 yX12_name ∈ fhtbl := fhm (in_t (in_8 (List.mem_of_getElem? (i := 37) rfl))) rfl
theorem ml_12_309 : Cond.methodLink (fhrx 12) 309 yX12_isOwnHere ∈ fhtbl := fhm (in_t (in_8 (List.mem_of_getElem? (i := 41) rfl))) rfl
theorem ml_12_374 : Cond.methodLink (fhrx 12) 374 yX12_blindTold ∈ fhtbl := fhm (in_t (in_8 (List.mem_of_getElem? (i := 47) rfl))) rfl
theorem ml_12_347 : Cond.methodLink (fhrx 12) 347 yX12_guestNamed ∈ fhtbl := fhm (in_t (in_8 (List.mem_of_getElem? (i := 51) rfl))) rfl
theorem ml_12_377 : Cond.methodLink (fhrx 12) 377 yX12_testTold ∈ fhtbl := fhm (in_t (in_8 (List.mem_of_getElem? (i := 55) rfl))) rfl
theorem ml_12_362 : Cond.methodLink (fhrx 12) 362 yX12_qTest ∈ fhtbl := fhm (in_t (in_8 (List.mem_of_getElem? (i := 59) rfl))) rfl
theorem ml_12_605 : Cond.methodLink (fhrx 12) 605 yX12_qOpens ∈ fhtbl := fhm (in_t (in_8 (List.mem_of_getElem? (i := 63) rfl))) rfl
theorem ml_12_635 : Cond.methodLink (fhrx 12) 635 yX12_qFact ∈ fhtbl := fhm (in_t (in_8 (List.mem_of_getElem? (i := 67) rfl))) rfl
theorem ml_12_587 : Cond.methodLink (fhrx 12) 587 yX12_qCode ∈ fhtbl := fhm (in_t (in_8 (List.mem_of_getElem? (i := 71) rfl))) rfl
theorem ml_12_632 : Cond.methodLink (fhrx 12) 632 yX12_qSums ∈ fhtbl := fhm (in_t (in_8 (List.mem_of_getElem? (i := 75) rfl))) rfl
theorem ml_12_626 : Cond.methodLink (fhrx 12) 626 yX12_qPartTold ∈ fhtbl := fhm (in_t (in_8 (List.mem_of_getElem? (i := 79) rfl))) rfl
theorem ml_12_602 : Cond.methodLink (fhrx 12) 602 yX12_qWordOf ∈ fhtbl := fhm (in_t (in_8 (List.mem_of_getElem? (i := 83) rfl))) rfl
theorem ml_12_596 : Cond.methodLink (fhrx 12) 596 yX12_qWordHere ∈ fhtbl := fhm (in_t (in_8 (List.mem_of_getElem? (i := 87) rfl))) rfl
theorem ml_12_599 : Cond.methodLink (fhrx 12) 599 yX12_isAllowed ∈ fhtbl := fhm (in_t (in_8 (List.mem_of_getElem? (i := 91) rfl))) rfl
theorem ml_12_608 : Cond.methodLink (fhrx 12) 608 yX12_qAsksWord ∈ fhtbl := fhm (in_t (in_8 (List.mem_of_getElem? (i := 97) rfl))) rfl
theorem ml_12_611 : Cond.methodLink (fhrx 12) 611 yX12_guestHere ∈ fhtbl := fhm (in_t (in_8 (List.mem_of_getElem? (i := 101) rfl))) rfl
theorem ml_12_614 : Cond.methodLink (fhrx 12) 614 yX12_qEndsPart ∈ fhtbl := fhm (in_t (in_8 (List.mem_of_getElem? (i := 105) rfl))) rfl
theorem ml_12_593 : Cond.methodLink (fhrx 12) 593 yX12_qDrops ∈ fhtbl := fhm (in_t (in_8 (List.mem_of_getElem? (i := 109) rfl))) rfl
theorem ml_12_629 : Cond.methodLink (fhrx 12) 629 yX12_qGoesOn ∈ fhtbl := fhm (in_t (in_8 (List.mem_of_getElem? (i := 113) rfl))) rfl
theorem ml_12_617 : Cond.methodLink (fhrx 12) 617 yX12_qBracket ∈ fhtbl := fhm (in_t (in_8 (List.mem_of_getElem? (i := 117) rfl))) rfl
theorem ml_12_590 : Cond.methodLink (fhrx 12) 590 yX12_qIsBracket ∈ fhtbl := fhm (in_t (in_8 (List.mem_of_getElem? (i := 121) rfl))) rfl
theorem ml_12_620 : Cond.methodLink (fhrx 12) 620 yX12_qDropsToBracket ∈ fhtbl := fhm (in_t (in_8 (List.mem_of_getElem? (i := 124) rfl))) rfl
theorem ml_12_623 : Cond.methodLink (fhrx 12) 623 yX12_qIsOn ∈ fhtbl := fhm (in_t (in_8 (List.mem_of_getElem? (i := 128) rfl))) rfl
theorem ml_12_638 : Cond.methodLink (fhrx 12) 638 yX12_qDropsNots ∈ fhtbl := fhm (in_t (in_8 (List.mem_of_getElem? (i := 132) rfl))) rfl
theorem ml_12_641 : Cond.methodLink (fhrx 12) 641 yX12_qGoesOnTest ∈ fhtbl := fhm (in_t (in_8 (List.mem_of_getElem? (i := 136) rfl))) rfl
theorem ml_12_644 : Cond.methodLink (fhrx 12) 644 yX12_qHasSquare ∈ fhtbl := fhm (in_t (in_8 (List.mem_of_getElem? (i := 140) rfl))) rfl
theorem ml_12_410 : Cond.methodLink (fhrx 12) 410 yX12_rulesHold ∈ fhtbl := fhm (in_t (in_8 (List.mem_of_getElem? (i := 144) rfl))) rfl
theorem ml_12_391 : Cond.methodLink (fhrx 12) 391 yX12_loadsTest ∈ fhtbl := fhm (in_t (in_8 (List.mem_of_getElem? (i := 148) rfl))) rfl
theorem ml_12_394 : Cond.methodLink (fhrx 12) 394 yX12_wornRow ∈ fhtbl := fhm (in_t (in_8 (List.mem_of_getElem? (i := 152) rfl))) rfl
theorem ml_12_397 : Cond.methodLink (fhrx 12) 397 yX12_laysRow ∈ fhtbl := fhm (in_t (in_8 (List.mem_of_getElem? (i := 156) rfl))) rfl
theorem ml_12_400 : Cond.methodLink (fhrx 12) 400 yX12_qTold ∈ fhtbl := fhm (in_t (in_8 (List.mem_of_getElem? (i := 160) rfl))) rfl
theorem ml_12_658 : Cond.methodLink (fhrx 12) 658 yX12_qPuts ∈ fhtbl := fhm (in_t (in_8 (List.mem_of_getElem? (i := 164) rfl))) rfl
theorem ml_12_678 : Cond.methodLink (fhrx 12) 678 yX12_qOf ∈ fhtbl := fhm (in_t (in_8 (List.mem_of_getElem? (i := 168) rfl))) rfl
theorem ml_12_387 : Cond.methodLink (fhrx 12) 387 yX12_countOf ∈ fhtbl := fhm (in_t (in_8 (List.mem_of_getElem? (i := 172) rfl))) rfl
theorem ml_12_505 : Cond.methodLink (fhrx 12) 505 yX12_isGuest ∈ fhtbl := fhm (in_t (in_8 (List.mem_of_getElem? (i := 176) rfl))) rfl
theorem ml_12_423 : Cond.methodLink (fhrx 12) 423 yX12_guestMany ∈ fhtbl := fhm (in_t (in_8 (List.mem_of_getElem? (i := 180) rfl))) rfl
theorem ml_12_426 : Cond.methodLink (fhrx 12) 426 yX12_markMany ∈ fhtbl := fhm (in_t (in_8 (List.mem_of_getElem? (i := 184) rfl))) rfl
theorem ml_12_654 : Cond.methodLink (fhrx 12) 654 yX12_qClip ∈ fhtbl := fhm (in_t (in_8 (List.mem_of_getElem? (i := 188) rfl))) rfl
theorem ml_12_682 : Cond.methodLink (fhrx 12) 682 yX12_qPartOf ∈ fhtbl := fhm (in_t (in_8 (List.mem_of_getElem? (i := 193) rfl))) rfl
theorem ml_12_666 : Cond.methodLink (fhrx 12) 666 yX12_rowSum ∈ fhtbl := fhm (in_t (in_8 (List.mem_of_getElem? (i := 197) rfl))) rfl
theorem ml_12_384 : Cond.methodLink (fhrx 12) 384 yX12_rowTop ∈ fhtbl := fhm (in_t (in_8 (List.mem_of_getElem? (i := 201) rfl))) rfl
theorem ml_12_669 : Cond.methodLink (fhrx 12) 669 yX12_rowLow ∈ fhtbl := fhm (in_t (in_8 (List.mem_of_getElem? (i := 205) rfl))) rfl
theorem ml_12_672 : Cond.methodLink (fhrx 12) 672 yX12_rowKinds ∈ fhtbl := fhm (in_t (in_8 (List.mem_of_getElem? (i := 209) rfl))) rfl
theorem ml_12_429 : Cond.methodLink (fhrx 12) 429 yX12_markOf ∈ fhtbl := fhm (in_t (in_8 (List.mem_of_getElem? (i := 213) rfl))) rfl
theorem ml_12_460 : Cond.methodLink (fhrx 12) 460 yX12_isOne ∈ fhtbl := fhm (in_t (in_8 (List.mem_of_getElem? (i := 217) rfl))) rfl
theorem ml_12_686 : Cond.methodLink (fhrx 12) 686 yX12_qJoins ∈ fhtbl := fhm (in_t (in_8 (List.mem_of_getElem? (i := 220) rfl))) rfl
theorem ml_12_662 : Cond.methodLink (fhrx 12) 662 yX12_qFloor ∈ fhtbl := fhm (in_t (in_8 (List.mem_of_getElem? (i := 224) rfl))) rfl
theorem ml_12_416 : Cond.methodLink (fhrx 12) 416 yX12_refuses ∈ fhtbl := fhm (in_t (in_8 (List.mem_of_getElem? (i := 227) rfl))) rfl
theorem ml_12_420 : Cond.methodLink (fhrx 12) 420 yX12_stands ∈ fhtbl := fhm (in_t (in_8 (List.mem_of_getElem? (i := 231) rfl))) rfl
theorem ml_12_445 : Cond.methodLink (fhrx 12) 445 yX12_laysTests ∈ fhtbl := fhm (in_t (in_8 (List.mem_of_getElem? (i := 235) rfl))) rfl
theorem ml_12_435 : Cond.methodLink (fhrx 12) 435 yX12_keyOf ∈ fhtbl := fhm (in_t (in_8 (List.mem_of_getElem? (i := 239) rfl))) rfl
theorem ml_12_448 : Cond.methodLink (fhrx 12) 448 yX12_laysAnew ∈ fhtbl := fhm (in_t (in_9 (List.mem_of_getElem? (i := 3) rfl))) rfl
theorem ml_12_463 : Cond.methodLink (fhrx 12) 463 yX12_laysGroups ∈ fhtbl := fhm (in_t (in_9 (List.mem_of_getElem? (i := 7) rfl))) rfl
theorem ml_12_466 : Cond.methodLink (fhrx 12) 466 yX12_laysRound ∈ fhtbl := fhm (in_t (in_9 (List.mem_of_getElem? (i := 11) rfl))) rfl
theorem ml_12_469 : Cond.methodLink (fhrx 12) 469 yX12_splitsGroups ∈ fhtbl := fhm (in_t (in_9 (List.mem_of_getElem? (i := 15) rfl))) rfl
theorem ml_12_451 : Cond.methodLink (fhrx 12) 451 yX12_begins ∈ fhtbl := fhm (in_t (in_9 (List.mem_of_getElem? (i := 19) rfl))) rfl
theorem ml_15_32 : Cond.methodLink (fhrx 15) 32 yX12_fault ∈ fhtbl := fhm (in_t (in_9 (List.mem_of_getElem? (i := 23) rfl))) rfl
theorem ml_15_36 : Cond.methodLink (fhrx 15) 36 yX12_has ∈ fhtbl := fhm (in_t (in_9 (List.mem_of_getElem? (i := 27) rfl))) rfl
theorem ml_12_487 : Cond.methodLink (fhrx 12) 487 yX12_leftMany ∈ fhtbl := fhm (in_t (in_9 (List.mem_of_getElem? (i := 31) rfl))) rfl
theorem ml_12_499 : Cond.methodLink (fhrx 12) 499 yX12_knowersNow ∈ fhtbl := fhm (in_t (in_9 (List.mem_of_getElem? (i := 35) rfl))) rfl
theorem ml_12_484 : Cond.methodLink (fhrx 12) 484 yX12_doesKnow ∈ fhtbl := fhm (in_t (in_9 (List.mem_of_getElem? (i := 39) rfl))) rfl
theorem ml_12_481 : Cond.methodLink (fhrx 12) 481 yX12_laysOwn ∈ fhtbl := fhm (in_t (in_9 (List.mem_of_getElem? (i := 43) rfl))) rfl
theorem ml_12_478 : Cond.methodLink (fhrx 12) 478 yX12_isLeft ∈ fhtbl := fhm (in_t (in_9 (List.mem_of_getElem? (i := 47) rfl))) rfl
theorem ml_12_502 : Cond.methodLink (fhrx 12) 502 yX12_bits ∈ fhtbl := fhm (in_t (in_9 (List.mem_of_getElem? (i := 51) rfl))) rfl
theorem ml_15_41 : Cond.methodLink (fhrx 15) 41 yX12_letter ∈ fhtbl := fhm (in_t (in_9 (List.mem_of_getElem? (i := 54) rfl))) rfl
theorem ml_15_45 : Cond.methodLink (fhrx 15) 45 yX12_guest ∈ fhtbl := fhm (in_t (in_9 (List.mem_of_getElem? (i := 59) rfl))) rfl
theorem ml_15_49 : Cond.methodLink (fhrx 15) 49 yX12_fact ∈ fhtbl := fhm (in_t (in_9 (List.mem_of_getElem? (i := 63) rfl))) rfl
theorem ml_12_514 : Cond.methodLink (fhrx 12) 514 yX12_isFact ∈ fhtbl := fhm (in_t (in_9 (List.mem_of_getElem? (i := 67) rfl))) rfl
theorem ml_12_511 : Cond.methodLink (fhrx 12) 511 yX12_factMany ∈ fhtbl := fhm (in_t (in_9 (List.mem_of_getElem? (i := 71) rfl))) rfl
theorem ml_12_519 : Cond.methodLink (fhrx 12) 519 yX12_doesHold ∈ fhtbl := fhm (in_t (in_9 (List.mem_of_getElem? (i := 76) rfl))) rfl
theorem ml_15_53 : Cond.methodLink (fhrx 15) 53 yX12_left ∈ fhtbl := fhm (in_t (in_9 (List.mem_of_getElem? (i := 80) rfl))) rfl
theorem ml_15_57 : Cond.methodLink (fhrx 15) 57 yX12_wears ∈ fhtbl := fhm (in_t (in_9 (List.mem_of_getElem? (i := 84) rfl))) rfl
theorem ml_15_61 : Cond.methodLink (fhrx 15) 61 yX12_kept ∈ fhtbl := fhm (in_t (in_9 (List.mem_of_getElem? (i := 88) rfl))) rfl
theorem ml_15_65 : Cond.methodLink (fhrx 15) 65 yX12_knows ∈ fhtbl := fhm (in_t (in_9 (List.mem_of_getElem? (i := 93) rfl))) rfl
theorem ml_12_490 : Cond.methodLink (fhrx 12) 490 yX12_laysKnowing ∈ fhtbl := fhm (in_t (in_9 (List.mem_of_getElem? (i := 97) rfl))) rfl
theorem ml_15_69 : Cond.methodLink (fhrx 15) 69 yX12_deep ∈ fhtbl := fhm (in_t (in_9 (List.mem_of_getElem? (i := 101) rfl))) rfl
theorem ml_12_525 : Cond.methodLink (fhrx 12) 525 yX12_goesDeeper ∈ fhtbl := fhm (in_t (in_9 (List.mem_of_getElem? (i := 105) rfl))) rfl
theorem ml_15_73 : Cond.methodLink (fhrx 15) 73 yX12_later ∈ fhtbl := fhm (in_t (in_9 (List.mem_of_getElem? (i := 109) rfl))) rfl
theorem ml_12_530 : Cond.methodLink (fhrx 12) 530 yX12_putsAside ∈ fhtbl := fhm (in_t (in_9 (List.mem_of_getElem? (i := 114) rfl))) rfl
theorem ml_12_533 : Cond.methodLink (fhrx 12) 533 yX12_roundGoes ∈ fhtbl := fhm (in_t (in_9 (List.mem_of_getElem? (i := 118) rfl))) rfl
theorem ml_12_493 : Cond.methodLink (fhrx 12) 493 yX12_leavesAs ∈ fhtbl := fhm (in_t (in_9 (List.mem_of_getElem? (i := 122) rfl))) rfl
theorem ml_12_496 : Cond.methodLink (fhrx 12) 496 yX12_isKept ∈ fhtbl := fhm (in_t (in_9 (List.mem_of_getElem? (i := 126) rfl))) rfl
theorem ml_12_536 : Cond.methodLink (fhrx 12) 536 yX12_takesBack ∈ fhtbl := fhm (in_t (in_9 (List.mem_of_getElem? (i := 130) rfl))) rfl
theorem ml_12_475 : Cond.methodLink (fhrx 12) 475 yX12_triesAnew ∈ fhtbl := fhm (in_t (in_9 (List.mem_of_getElem? (i := 134) rfl))) rfl
theorem ml_15_77 : Cond.methodLink (fhrx 15) 77 yX12_learns ∈ fhtbl := fhm (in_t (in_9 (List.mem_of_getElem? (i := 138) rfl))) rfl
theorem ml_15_81 : Cond.methodLink (fhrx 15) 81 yX12_rests ∈ fhtbl := fhm (in_t (in_9 (List.mem_of_getElem? (i := 142) rfl))) rfl
theorem ml_15_85 : Cond.methodLink (fhrx 15) 85 yX12_hints ∈ fhtbl := fhm (in_t (in_9 (List.mem_of_getElem? (i := 146) rfl))) rfl
theorem ml_12_542 : Cond.methodLink (fhrx 12) 542 yX12_fewest ∈ fhtbl := fhm (in_t (in_9 (List.mem_of_getElem? (i := 150) rfl))) rfl
theorem ml_12_539 : Cond.methodLink (fhrx 12) 539 yX12_knowsBy ∈ fhtbl := fhm (in_t (in_9 (List.mem_of_getElem? (i := 154) rfl))) rfl
theorem ml_15_89 : Cond.methodLink (fhrx 15) 89 yX12_secret ∈ fhtbl := fhm (in_t (in_9 (List.mem_of_getElem? (i := 158) rfl))) rfl
theorem ml_15_93 : Cond.methodLink (fhrx 15) 93 yX12_speaker ∈ fhtbl := fhm (in_t (in_9 (List.mem_of_getElem? (i := 162) rfl))) rfl
theorem ml_12_545 : Cond.methodLink (fhrx 12) 545 yX12_leftIfSays ∈ fhtbl := fhm (in_t (in_9 (List.mem_of_getElem? (i := 166) rfl))) rfl
theorem ml_15_97 : Cond.methodLink (fhrx 15) 97 yX12_slowest ∈ fhtbl := fhm (in_t (in_9 (List.mem_of_getElem? (i := 170) rfl))) rfl
theorem ml_12_548 : Cond.methodLink (fhrx 12) 548 yX12_knewAt ∈ fhtbl := fhm (in_t (in_9 (List.mem_of_getElem? (i := 174) rfl))) rfl
theorem ml_15_101 : Cond.methodLink (fhrx 15) 101 yX12_odds ∈ fhtbl := fhm (in_t (in_9 (List.mem_of_getElem? (i := 178) rfl))) rfl
theorem ml_15_105 : Cond.methodLink (fhrx 15) 105 yX12_hear ∈ fhtbl := fhm (in_t (in_9 (List.mem_of_getElem? (i := 182) rfl))) rfl
theorem ml_15_109 : Cond.methodLink (fhrx 15) 109 yX12_fits ∈ fhtbl := fhm (in_t (in_9 (List.mem_of_getElem? (i := 186) rfl))) rfl
theorem ml_12_551 : Cond.methodLink (fhrx 12) 551 yX12_doesFit ∈ fhtbl := fhm (in_t (in_9 (List.mem_of_getElem? (i := 190) rfl))) rfl
theorem ml_15_113 : Cond.methodLink (fhrx 15) 113 yX12_could ∈ fhtbl := fhm (in_t (in_9 (List.mem_of_getElem? (i := 194) rfl))) rfl
theorem ml_15_117 : Cond.methodLink (fhrx 15) 117 yX12_tells ∈ fhtbl := fhm (in_t (in_9 (List.mem_of_getElem? (i := 198) rfl))) rfl
theorem ml_12_554 : Cond.methodLink (fhrx 12) 554 yX12_fits ∈ fhtbl := fhm (in_t (in_9 (List.mem_of_getElem? (i := 202) rfl))) rfl
theorem ml_12_557 : Cond.methodLink (fhrx 12) 557 yX12_mostAlike ∈ fhtbl := fhm (in_t (in_9 (List.mem_of_getElem? (i := 203) rfl))) rfl
theorem ml_15_147 : Cond.methodLink (fhrx 15) 147 yX12_undo ∈ fhtbl := fhm (in_t (in_9 (List.mem_of_getElem? (i := 207) rfl))) rfl
theorem ml_15_121 : Cond.methodLink (fhrx 15) 121 yX12_round ∈ fhtbl := fhm (in_t (in_9 (List.mem_of_getElem? (i := 211) rfl))) rfl
theorem ml_12_564 : Cond.methodLink (fhrx 12) 564 yX12_keeps ∈ fhtbl := fhm (in_t (in_9 (List.mem_of_getElem? (i := 215) rfl))) rfl
theorem ml_15_125 : Cond.methodLink (fhrx 15) 125 yX12_says ∈ fhtbl := fhm (in_t (in_9 (List.mem_of_getElem? (i := 219) rfl))) rfl
theorem ml_15_129 : Cond.methodLink (fhrx 15) 129 yX12_tell ∈ fhtbl := fhm (in_t (in_9 (List.mem_of_getElem? (i := 223) rfl))) rfl
theorem ml_15_134 : Cond.methodLink (fhrx 15) 134 yX12_wear ∈ fhtbl := fhm (in_t (in_9 (List.mem_of_getElem? (i := 227) rfl))) rfl
theorem ml_12_567 : Cond.methodLink (fhrx 12) 567 yX12_rowWith ∈ fhtbl := fhm (in_t (in_9 (List.mem_of_getElem? (i := 231) rfl))) rfl
theorem ml_12_570 : Cond.methodLink (fhrx 12) 570 yX12_isRefused ∈ fhtbl := fhm (in_t (in_9 (List.mem_of_getElem? (i := 235) rfl))) rfl
theorem ml_12_573 : Cond.methodLink (fhrx 12) 573 yX12_isWorn ∈ fhtbl := fhm (in_t (in_9 (List.mem_of_getElem? (i := 239) rfl))) rfl
theorem ml_15_151 : Cond.methodLink (fhrx 15) 151 yX12_seed ∈ fhtbl := fhm (in_t (in_10 (List.mem_of_getElem? (i := 3) rfl))) rfl
theorem ml_15_138 : Cond.methodLink (fhrx 15) 138 yX12_chance ∈ fhtbl := fhm (in_t (in_10 (List.mem_of_getElem? (i := 7) rfl))) rfl
theorem ml_12_584 : Cond.methodLink (fhrx 12) 584 yX12_drawOf ∈ fhtbl := fhm (in_t (in_10 (List.mem_of_getElem? (i := 11) rfl))) rfl
theorem ml_15_142 : Cond.methodLink (fhrx 15) 142 yX12_deal ∈ fhtbl := fhm (in_t (in_10 (List.mem_of_getElem? (i := 19) rfl))) rfl
theorem ml_15_156 : Cond.methodLink (fhrx 15) 156 yX12_ask ∈ fhtbl := fhm (in_t (in_10 (List.mem_of_getElem? (i := 23) rfl))) rfl
theorem ml_12_699 : Cond.methodLink (fhrx 12) 699 yX12_qKind ∈ fhtbl := fhm (in_t (in_10 (List.mem_of_getElem? (i := 28) rfl))) rfl
theorem ml_12_702 : Cond.methodLink (fhrx 12) 702 yX12_qTakes ∈ fhtbl := fhm (in_t (in_10 (List.mem_of_getElem? (i := 33) rfl))) rfl
theorem ml_15_164 : Cond.methodLink (fhrx 15) 164 yX12_octet ∈ fhtbl := fhm (in_t (in_10 (List.mem_of_getElem? (i := 37) rfl))) rfl
theorem ml_15_172 : Cond.methodLink (fhrx 15) 172 yX12_status ∈ fhtbl := fhm (in_t (in_10 (List.mem_of_getElem? (i := 41) rfl))) rfl
theorem ml_15_160 : Cond.methodLink (fhrx 15) 160 yX12_image ∈ fhtbl := fhm (in_t (in_10 (List.mem_of_getElem? (i := 45) rfl))) rfl
theorem ml_12_712 : Cond.methodLink (fhrx 12) 712 yX12_writesTwo ∈ fhtbl := fhm (in_t (in_10 (List.mem_of_getElem? (i := 49) rfl))) rfl
theorem ml_12_709 : Cond.methodLink (fhrx 12) 709 yX12_writes ∈ fhtbl := fhm (in_t (in_10 (List.mem_of_getElem? (i := 53) rfl))) rfl
theorem ml_12_715 : Cond.methodLink (fhrx 12) 715 yX12_checked ∈ fhtbl := fhm (in_t (in_10 (List.mem_of_getElem? (i := 57) rfl))) rfl
theorem ml_15_168 : Cond.methodLink (fhrx 15) 168 yX12_on ∈ fhtbl := fhm (in_t (in_10 (List.mem_of_getElem? (i := 60) rfl))) rfl
theorem ml_12_722 : Cond.methodLink (fhrx 12) 722 yX12_isImage ∈ fhtbl := fhm (in_t (in_10 (List.mem_of_getElem? (i := 64) rfl))) rfl
theorem ml_12_719 : Cond.methodLink (fhrx 12) 719 yX12_twoAt ∈ fhtbl := fhm (in_t (in_10 (List.mem_of_getElem? (i := 68) rfl))) rfl

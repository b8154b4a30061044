theorem in_L : Cond.initialized R_L ∈ G0 := G0_of (i := 0) (by rfl) (by rfl)
theorem in_B : Cond.initialized R_B ∈ G0 := G0_of (i := 1) (by rfl) (by rfl)
theorem in_W : Cond.initialized R_W ∈ G0 := G0_of (i := 2) (by rfl) (by rfl)
theorem in_N : Cond.initialized R_N ∈ G0 := G0_of (i := 3) (by rfl) (by rfl)
theorem in_M : Cond.initialized R_M ∈ G0 := G0_of (i := 4) (by rfl) (by rfl)
theorem in_JS : Cond.initialized R_JS ∈ G0 := G0_of (i := 5) (by rfl) (by rfl)
theorem in_JI : Cond.initialized R_JI ∈ G0 := G0_of (i := 6) (by rfl) (by rfl)
theorem in_JM : Cond.initialized R_JM ∈ G0 := G0_of (i := 7) (by rfl) (by rfl)
theorem cl_L_7 : Cond.classLink R_L 7 R_B ∈ G0 := G0_of (i := 8) (by rfl) (by rfl)
theorem ia_B : Cond.instantiable R_B 2 ∈ G0 := G0_of (i := 9) (by rfl) (by rfl)
theorem ml_L_9 : Cond.methodLink R_L 9 y_B_init ∈ G0 := G0_of (i := 10) (by rfl) (by rfl)
theorem im_B_init : Cond.instanceMethod y_B_init ∈ G0 := G0_of (i := 11) (by rfl) (by rfl)
theorem co_B_init : Cond.code y_B_init b_B_init 2 (none) ∈ G0 := G0_of (i := 12) (by rfl) (by rfl)
theorem ml_B_3 : Cond.methodLink R_B 3 objectInit ∈ G0 := G0_of (i := 13) (by rfl) (by rfl)
theorem im_JO_init : Cond.instanceMethod objectInit ∈ G0 := G0_of (i := 14) (by rfl) (by rfl)
theorem co_JO_init : Cond.code objectInit ⟨#[0xb1]⟩ 1 none ∈ G0 := G0_of (i := 15) (by rfl) (by rfl)
theorem cl_B_9 : Cond.classLink R_B 9 R_W ∈ G0 := G0_of (i := 16) (by rfl) (by rfl)
theorem cl_B_15 : Cond.classLink R_B 15 R_N ∈ G0 := G0_of (i := 18) (by rfl) (by rfl)
theorem ia_W : Cond.instantiable R_W 3 ∈ G0 := G0_of (i := 20) (by rfl) (by rfl)
theorem im_W_init : Cond.instanceMethod y_W_init ∈ G0 := G0_of (i := 22) (by rfl) (by rfl)
theorem co_W_init : Cond.code y_W_init b_W_init 1 (none) ∈ G0 := G0_of (i := 23) (by rfl) (by rfl)
theorem ml_W_3 : Cond.methodLink R_W 3 objectInit ∈ G0 := G0_of (i := 24) (by rfl) (by rfl)
theorem fl_W_9 : Cond.fieldLink R_W 9 R_W "letters" "[I" ∈ G0 := G0_of (i := 25) (by rfl) (by rfl)
theorem fl_N_52 : Cond.fieldLink R_N 52 R_W "letters" "[I" ∈ G0 := G0_of (i := 26) (by rfl) (by rfl)
theorem fl_B_62 : Cond.fieldLink R_B 62 R_W "letters" "[I" ∈ G0 := G0_of (i := 27) (by rfl) (by rfl)
theorem fl_W_15 : Cond.fieldLink R_W 15 R_W "width" "I" ∈ G0 := G0_of (i := 28) (by rfl) (by rfl)
theorem fl_N_55 : Cond.fieldLink R_N 55 R_W "width" "I" ∈ G0 := G0_of (i := 29) (by rfl) (by rfl)
theorem fl_B_45 : Cond.fieldLink R_B 45 R_W "width" "I" ∈ G0 := G0_of (i := 30) (by rfl) (by rfl)
theorem fl_W_19 : Cond.fieldLink R_W 19 R_W "count" "I" ∈ G0 := G0_of (i := 31) (by rfl) (by rfl)
theorem fl_N_49 : Cond.fieldLink R_N 49 R_W "count" "I" ∈ G0 := G0_of (i := 32) (by rfl) (by rfl)
theorem fl_B_34 : Cond.fieldLink R_B 34 R_W "count" "I" ∈ G0 := G0_of (i := 33) (by rfl) (by rfl)
theorem ac_int : Cond.arrayClass .int ∈ G0 := G0_of (i := 41) (by rfl) (by rfl)
theorem ia_N : Cond.instantiable R_N 6 ∈ G0 := G0_of (i := 42) (by rfl) (by rfl)
theorem im_N_init : Cond.instanceMethod y_N_init ∈ G0 := G0_of (i := 44) (by rfl) (by rfl)
theorem co_N_init : Cond.code y_N_init b_N_init 1 (none) ∈ G0 := G0_of (i := 45) (by rfl) (by rfl)
theorem ml_N_3 : Cond.methodLink R_N 3 objectInit ∈ G0 := G0_of (i := 46) (by rfl) (by rfl)
theorem cl_N_9 : Cond.classLink R_N 9 R_W ∈ G0 := G0_of (i := 47) (by rfl) (by rfl)
theorem cl_N_18 : Cond.classLink R_N 18 "[[I" ∈ G0 := G0_of (i := 49) (by rfl) (by rfl)
theorem fl_N_12 : Cond.fieldLink R_N 12 R_N "source" "LBraidWords$Word;" ∈ G0 := G0_of (i := 51) (by rfl) (by rfl)
theorem fl_N_20 : Cond.fieldLink R_N 20 R_N "rows" "[[I" ∈ G0 := G0_of (i := 52) (by rfl) (by rfl)
theorem fl_N_23 : Cond.fieldLink R_N 23 R_N "startOf" "[I" ∈ G0 := G0_of (i := 53) (by rfl) (by rfl)
theorem fl_N_27 : Cond.fieldLink R_N 27 R_N "from" "I" ∈ G0 := G0_of (i := 54) (by rfl) (by rfl)
theorem fl_N_31 : Cond.fieldLink R_N 31 R_N "to" "I" ∈ G0 := G0_of (i := 55) (by rfl) (by rfl)
theorem fl_N_34 : Cond.fieldLink R_N 34 R_N "power" "I" ∈ G0 := G0_of (i := 56) (by rfl) (by rfl)
theorem fl_B_106 : Cond.fieldLink R_B 106 R_N "power" "I" ∈ G0 := G0_of (i := 57) (by rfl) (by rfl)
theorem fl_B_11 : Cond.fieldLink R_B 11 R_B "words" "[LBraidWords$Word;" ∈ G0 := G0_of (i := 71) (by rfl) (by rfl)
theorem fl_B_17 : Cond.fieldLink R_B 17 R_B "forms" "[LBraidWords$NormalForm;" ∈ G0 := G0_of (i := 72) (by rfl) (by rfl)
theorem ml_L_13 : Cond.methodLink R_L 13 y_B_strands ∈ G0 := G0_of (i := 78) (by rfl) (by rfl)
theorem im_B_strands : Cond.instanceMethod y_B_strands ∈ G0 := G0_of (i := 79) (by rfl) (by rfl)
theorem se_B_strands : Cond.selects R_B y_B_strands y_B_strands ∈ G0 := G0_of (i := 80) (by rfl) (by rfl)
theorem co_B_strands : Cond.code y_B_strands b_B_strands 3 (some .boolean) ∈ G0 := G0_of (i := 81) (by rfl) (by rfl)
theorem ml_B_23 : Cond.methodLink R_B 23 y_B_isSlot ∈ G0 := G0_of (i := 82) (by rfl) (by rfl)
theorem st_B_isSlot : Cond.static y_B_isSlot ∈ G0 := G0_of (i := 83) (by rfl) (by rfl)
theorem co_B_isSlot : Cond.code y_B_isSlot b_B_isSlot 1 (some .boolean) ∈ G0 := G0_of (i := 84) (by rfl) (by rfl)
theorem ml_B_27 : Cond.methodLink R_B 27 y_W_clear ∈ G0 := G0_of (i := 85) (by rfl) (by rfl)
theorem im_W_clear : Cond.instanceMethod y_W_clear ∈ G0 := G0_of (i := 86) (by rfl) (by rfl)
theorem se_W_clear : Cond.selects R_W y_W_clear y_W_clear ∈ G0 := G0_of (i := 87) (by rfl) (by rfl)
theorem co_W_clear : Cond.code y_W_clear b_W_clear 2 (none) ∈ G0 := G0_of (i := 88) (by rfl) (by rfl)
theorem ml_L_18 : Cond.methodLink R_L 18 y_B_letter ∈ G0 := G0_of (i := 89) (by rfl) (by rfl)
theorem im_B_letter : Cond.instanceMethod y_B_letter ∈ G0 := G0_of (i := 90) (by rfl) (by rfl)
theorem se_B_letter : Cond.selects R_B y_B_letter y_B_letter ∈ G0 := G0_of (i := 91) (by rfl) (by rfl)
theorem co_B_letter : Cond.code y_B_letter b_B_letter 3 (some .int) ∈ G0 := G0_of (i := 92) (by rfl) (by rfl)
theorem ml_B_31 : Cond.methodLink R_B 31 y_W_append ∈ G0 := G0_of (i := 93) (by rfl) (by rfl)
theorem im_W_append : Cond.instanceMethod y_W_append ∈ G0 := G0_of (i := 94) (by rfl) (by rfl)
theorem se_W_append : Cond.selects R_W y_W_append y_W_append ∈ G0 := G0_of (i := 95) (by rfl) (by rfl)
theorem co_W_append : Cond.code y_W_append b_W_append 2 (some .boolean) ∈ G0 := G0_of (i := 96) (by rfl) (by rfl)
theorem ml_L_23 : Cond.methodLink R_L 23 y_B_copy ∈ G0 := G0_of (i := 97) (by rfl) (by rfl)
theorem im_B_copy : Cond.instanceMethod y_B_copy ∈ G0 := G0_of (i := 98) (by rfl) (by rfl)
theorem se_B_copy : Cond.selects R_B y_B_copy y_B_copy ∈ G0 := G0_of (i := 99) (by rfl) (by rfl)
theorem co_B_copy : Cond.code y_B_copy b_B_copy 4 (some .boolean) ∈ G0 := G0_of (i := 100) (by rfl) (by rfl)
theorem ml_B_38 : Cond.methodLink R_B 38 y_W_take ∈ G0 := G0_of (i := 101) (by rfl) (by rfl)
theorem im_W_take : Cond.instanceMethod y_W_take ∈ G0 := G0_of (i := 102) (by rfl) (by rfl)
theorem se_W_take : Cond.selects R_W y_W_take y_W_take ∈ G0 := G0_of (i := 103) (by rfl) (by rfl)
theorem co_W_take : Cond.code y_W_take b_W_take 2 (none) ∈ G0 := G0_of (i := 104) (by rfl) (by rfl)
theorem ml_W_22 : Cond.methodLink R_W 22 arraycopyName ∈ G0 := G0_of (i := 105) (by rfl) (by rfl)
theorem st_JS_arraycopy : Cond.static arraycopyName ∈ G0 := G0_of (i := 106) (by rfl) (by rfl)
theorem na_JS_arraycopy : Cond.native arraycopyName ∈ G0 := G0_of (i := 107) (by rfl) (by rfl)
theorem ml_B_42 : Cond.methodLink R_B 42 y_W_invert ∈ G0 := G0_of (i := 108) (by rfl) (by rfl)
theorem im_W_invert : Cond.instanceMethod y_W_invert ∈ G0 := G0_of (i := 109) (by rfl) (by rfl)
theorem se_W_invert : Cond.selects R_W y_W_invert y_W_invert ∈ G0 := G0_of (i := 110) (by rfl) (by rfl)
theorem co_W_invert : Cond.code y_W_invert b_W_invert 4 (none) ∈ G0 := G0_of (i := 111) (by rfl) (by rfl)
theorem ml_L_28 : Cond.methodLink R_L 28 y_B_many ∈ G0 := G0_of (i := 112) (by rfl) (by rfl)
theorem im_B_many : Cond.instanceMethod y_B_many ∈ G0 := G0_of (i := 113) (by rfl) (by rfl)
theorem se_B_many : Cond.selects R_B y_B_many y_B_many ∈ G0 := G0_of (i := 114) (by rfl) (by rfl)
theorem co_B_many : Cond.code y_B_many b_B_many 4 (some .int) ∈ G0 := G0_of (i := 115) (by rfl) (by rfl)
theorem ml_B_48 : Cond.methodLink R_B 48 y_W_signSum ∈ G0 := G0_of (i := 116) (by rfl) (by rfl)
theorem im_W_signSum : Cond.instanceMethod y_W_signSum ∈ G0 := G0_of (i := 117) (by rfl) (by rfl)
theorem se_W_signSum : Cond.selects R_W y_W_signSum y_W_signSum ∈ G0 := G0_of (i := 118) (by rfl) (by rfl)
theorem co_W_signSum : Cond.code y_W_signSum b_W_signSum 3 (some .int) ∈ G0 := G0_of (i := 119) (by rfl) (by rfl)
theorem ml_W_34 : Cond.methodLink R_W 34 y_JI_signum ∈ G0 := G0_of (i := 120) (by rfl) (by rfl)
theorem st_JI_signum : Cond.static y_JI_signum ∈ G0 := G0_of (i := 121) (by rfl) (by rfl)
theorem co_JI_signum : Cond.code y_JI_signum b_JI_signum 1 (some .int) ∈ G0 := G0_of (i := 122) (by rfl) (by rfl)
theorem ml_B_52 : Cond.methodLink R_B 52 y_W_components ∈ G0 := G0_of (i := 123) (by rfl) (by rfl)
theorem im_W_components : Cond.instanceMethod y_W_components ∈ G0 := G0_of (i := 124) (by rfl) (by rfl)
theorem se_W_components : Cond.selects R_W y_W_components y_W_components ∈ G0 := G0_of (i := 125) (by rfl) (by rfl)
theorem co_W_components : Cond.code y_W_components b_W_components 6 (some .int) ∈ G0 := G0_of (i := 126) (by rfl) (by rfl)
theorem ml_W_46 : Cond.methodLink R_W 46 y_W_endOf ∈ G0 := G0_of (i := 127) (by rfl) (by rfl)
theorem im_W_endOf : Cond.instanceMethod y_W_endOf ∈ G0 := G0_of (i := 128) (by rfl) (by rfl)
theorem se_W_endOf : Cond.selects R_W y_W_endOf y_W_endOf ∈ G0 := G0_of (i := 129) (by rfl) (by rfl)
theorem co_W_endOf : Cond.code y_W_endOf b_W_endOf 4 (some .int) ∈ G0 := G0_of (i := 130) (by rfl) (by rfl)
theorem ml_W_43 : Cond.methodLink R_W 43 y_W_value ∈ G0 := G0_of (i := 131) (by rfl) (by rfl)
theorem im_W_value : Cond.instanceMethod y_W_value ∈ G0 := G0_of (i := 132) (by rfl) (by rfl)
theorem se_W_value : Cond.selects R_W y_W_value y_W_value ∈ G0 := G0_of (i := 133) (by rfl) (by rfl)
theorem co_W_value : Cond.code y_W_value b_W_value 2 (some .int) ∈ G0 := G0_of (i := 134) (by rfl) (by rfl)
theorem ml_W_28 : Cond.methodLink R_W 28 y_JM_abs ∈ G0 := G0_of (i := 135) (by rfl) (by rfl)
theorem st_JM_abs : Cond.static y_JM_abs ∈ G0 := G0_of (i := 136) (by rfl) (by rfl)
theorem co_JM_abs : Cond.code y_JM_abs b_JM_abs 1 (some .int) ∈ G0 := G0_of (i := 137) (by rfl) (by rfl)
theorem ml_B_55 : Cond.methodLink R_B 55 y_W_circles ∈ G0 := G0_of (i := 138) (by rfl) (by rfl)
theorem im_W_circles : Cond.instanceMethod y_W_circles ∈ G0 := G0_of (i := 139) (by rfl) (by rfl)
theorem se_W_circles : Cond.selects R_W y_W_circles y_W_circles ∈ G0 := G0_of (i := 140) (by rfl) (by rfl)
theorem co_W_circles : Cond.code y_W_circles b_W_circles 3 (some .int) ∈ G0 := G0_of (i := 141) (by rfl) (by rfl)
theorem ml_W_49 : Cond.methodLink R_W 49 y_W_touchedFrom ∈ G0 := G0_of (i := 142) (by rfl) (by rfl)
theorem im_W_touchedFrom : Cond.instanceMethod y_W_touchedFrom ∈ G0 := G0_of (i := 143) (by rfl) (by rfl)
theorem se_W_touchedFrom : Cond.selects R_W y_W_touchedFrom y_W_touchedFrom ∈ G0 := G0_of (i := 144) (by rfl) (by rfl)
theorem co_W_touchedFrom : Cond.code y_W_touchedFrom b_W_touchedFrom 4 (some .boolean) ∈ G0 := G0_of (i := 145) (by rfl) (by rfl)
theorem ml_W_53 : Cond.methodLink R_W 53 y_W_touches ∈ G0 := G0_of (i := 146) (by rfl) (by rfl)
theorem im_W_touches : Cond.instanceMethod y_W_touches ∈ G0 := G0_of (i := 147) (by rfl) (by rfl)
theorem se_W_touches : Cond.selects R_W y_W_touches y_W_touches ∈ G0 := G0_of (i := 148) (by rfl) (by rfl)
theorem co_W_touches : Cond.code y_W_touches b_W_touches 3 (some .boolean) ∈ G0 := G0_of (i := 149) (by rfl) (by rfl)
theorem ml_L_32 : Cond.methodLink R_L 32 y_B_at ∈ G0 := G0_of (i := 150) (by rfl) (by rfl)
theorem im_B_at : Cond.instanceMethod y_B_at ∈ G0 := G0_of (i := 151) (by rfl) (by rfl)
theorem se_B_at : Cond.selects R_B y_B_at y_B_at ∈ G0 := G0_of (i := 152) (by rfl) (by rfl)
theorem co_B_at : Cond.code y_B_at b_B_at 3 (some .int) ∈ G0 := G0_of (i := 153) (by rfl) (by rfl)
theorem ml_B_58 : Cond.methodLink R_B 58 y_W_hasLetters ∈ G0 := G0_of (i := 154) (by rfl) (by rfl)
theorem im_W_hasLetters : Cond.instanceMethod y_W_hasLetters ∈ G0 := G0_of (i := 155) (by rfl) (by rfl)
theorem se_W_hasLetters : Cond.selects R_W y_W_hasLetters y_W_hasLetters ∈ G0 := G0_of (i := 156) (by rfl) (by rfl)
theorem co_W_hasLetters : Cond.code y_W_hasLetters b_W_hasLetters 3 (some .boolean) ∈ G0 := G0_of (i := 157) (by rfl) (by rfl)
theorem ml_L_36 : Cond.methodLink R_L 36 y_B_end ∈ G0 := G0_of (i := 158) (by rfl) (by rfl)
theorem im_B_end : Cond.instanceMethod y_B_end ∈ G0 := G0_of (i := 159) (by rfl) (by rfl)
theorem se_B_end : Cond.selects R_B y_B_end y_B_end ∈ G0 := G0_of (i := 160) (by rfl) (by rfl)
theorem co_B_end : Cond.code y_B_end b_B_end 3 (some .int) ∈ G0 := G0_of (i := 161) (by rfl) (by rfl)
theorem ml_B_66 : Cond.methodLink R_B 66 y_W_hasPlace ∈ G0 := G0_of (i := 162) (by rfl) (by rfl)
theorem im_W_hasPlace : Cond.instanceMethod y_W_hasPlace ∈ G0 := G0_of (i := 163) (by rfl) (by rfl)
theorem se_W_hasPlace : Cond.selects R_W y_W_hasPlace y_W_hasPlace ∈ G0 := G0_of (i := 164) (by rfl) (by rfl)
theorem co_W_hasPlace : Cond.code y_W_hasPlace b_W_hasPlace 2 (some .boolean) ∈ G0 := G0_of (i := 165) (by rfl) (by rfl)
theorem ml_B_69 : Cond.methodLink R_B 69 y_W_endOf ∈ G0 := G0_of (i := 166) (by rfl) (by rfl)
theorem ml_L_40 : Cond.methodLink R_L 40 y_B_reduce ∈ G0 := G0_of (i := 167) (by rfl) (by rfl)
theorem im_B_reduce : Cond.instanceMethod y_B_reduce ∈ G0 := G0_of (i := 168) (by rfl) (by rfl)
theorem se_B_reduce : Cond.selects R_B y_B_reduce y_B_reduce ∈ G0 := G0_of (i := 169) (by rfl) (by rfl)
theorem co_B_reduce : Cond.code y_B_reduce b_B_reduce 5 (some .int) ∈ G0 := G0_of (i := 170) (by rfl) (by rfl)
theorem ml_B_73 : Cond.methodLink R_B 73 y_W_cancelNeighbours ∈ G0 := G0_of (i := 171) (by rfl) (by rfl)
theorem im_W_cancelNeighbours : Cond.instanceMethod y_W_cancelNeighbours ∈ G0 := G0_of (i := 172) (by rfl) (by rfl)
theorem se_W_cancelNeighbours : Cond.selects R_W y_W_cancelNeighbours y_W_cancelNeighbours ∈ G0 := G0_of (i := 173) (by rfl) (by rfl)
theorem co_W_cancelNeighbours : Cond.code y_W_cancelNeighbours b_W_cancelNeighbours 3 (none) ∈ G0 := G0_of (i := 174) (by rfl) (by rfl)
theorem ml_B_76 : Cond.methodLink R_B 76 y_W_cancelEnds ∈ G0 := G0_of (i := 175) (by rfl) (by rfl)
theorem im_W_cancelEnds : Cond.instanceMethod y_W_cancelEnds ∈ G0 := G0_of (i := 176) (by rfl) (by rfl)
theorem se_W_cancelEnds : Cond.selects R_W y_W_cancelEnds y_W_cancelEnds ∈ G0 := G0_of (i := 177) (by rfl) (by rfl)
theorem co_W_cancelEnds : Cond.code y_W_cancelEnds b_W_cancelEnds 2 (none) ∈ G0 := G0_of (i := 178) (by rfl) (by rfl)
theorem ml_L_45 : Cond.methodLink R_L 45 y_B_round ∈ G0 := G0_of (i := 179) (by rfl) (by rfl)
theorem im_B_round : Cond.instanceMethod y_B_round ∈ G0 := G0_of (i := 180) (by rfl) (by rfl)
theorem se_B_round : Cond.selects R_B y_B_round y_B_round ∈ G0 := G0_of (i := 181) (by rfl) (by rfl)
theorem co_B_round : Cond.code y_B_round b_B_round 3 (some .boolean) ∈ G0 := G0_of (i := 182) (by rfl) (by rfl)
theorem ml_B_79 : Cond.methodLink R_B 79 y_W_lastToFront ∈ G0 := G0_of (i := 183) (by rfl) (by rfl)
theorem im_W_lastToFront : Cond.instanceMethod y_W_lastToFront ∈ G0 := G0_of (i := 184) (by rfl) (by rfl)
theorem se_W_lastToFront : Cond.selects R_W y_W_lastToFront y_W_lastToFront ∈ G0 := G0_of (i := 185) (by rfl) (by rfl)
theorem co_W_lastToFront : Cond.code y_W_lastToFront b_W_lastToFront 2 (some .boolean) ∈ G0 := G0_of (i := 186) (by rfl) (by rfl)
theorem ml_B_83 : Cond.methodLink R_B 83 y_W_firstToBack ∈ G0 := G0_of (i := 187) (by rfl) (by rfl)
theorem im_W_firstToBack : Cond.instanceMethod y_W_firstToBack ∈ G0 := G0_of (i := 188) (by rfl) (by rfl)
theorem se_W_firstToBack : Cond.selects R_W y_W_firstToBack y_W_firstToBack ∈ G0 := G0_of (i := 189) (by rfl) (by rfl)
theorem co_W_firstToBack : Cond.code y_W_firstToBack b_W_firstToBack 2 (some .boolean) ∈ G0 := G0_of (i := 190) (by rfl) (by rfl)
theorem ml_L_50 : Cond.methodLink R_L 50 y_B_exchange ∈ G0 := G0_of (i := 191) (by rfl) (by rfl)
theorem im_B_exchange : Cond.instanceMethod y_B_exchange ∈ G0 := G0_of (i := 192) (by rfl) (by rfl)
theorem se_B_exchange : Cond.selects R_B y_B_exchange y_B_exchange ∈ G0 := G0_of (i := 193) (by rfl) (by rfl)
theorem co_B_exchange : Cond.code y_B_exchange b_B_exchange 3 (some .boolean) ∈ G0 := G0_of (i := 194) (by rfl) (by rfl)
theorem ml_B_86 : Cond.methodLink R_B 86 y_W_swapFar ∈ G0 := G0_of (i := 195) (by rfl) (by rfl)
theorem im_W_swapFar : Cond.instanceMethod y_W_swapFar ∈ G0 := G0_of (i := 196) (by rfl) (by rfl)
theorem se_W_swapFar : Cond.selects R_W y_W_swapFar y_W_swapFar ∈ G0 := G0_of (i := 197) (by rfl) (by rfl)
theorem co_W_swapFar : Cond.code y_W_swapFar b_W_swapFar 2 (some .boolean) ∈ G0 := G0_of (i := 198) (by rfl) (by rfl)
theorem ml_W_56 : Cond.methodLink R_W 56 y_W_hasLetters ∈ G0 := G0_of (i := 199) (by rfl) (by rfl)
theorem st_B_swapAt : Cond.static y_B_swapAt ∈ G0 := G0_of (i := 201) (by rfl) (by rfl)
theorem co_B_swapAt : Cond.code y_B_swapAt b_B_swapAt 3 (none) ∈ G0 := G0_of (i := 202) (by rfl) (by rfl)
theorem ml_L_54 : Cond.methodLink R_L 54 y_B_pass ∈ G0 := G0_of (i := 203) (by rfl) (by rfl)
theorem im_B_pass : Cond.instanceMethod y_B_pass ∈ G0 := G0_of (i := 204) (by rfl) (by rfl)
theorem se_B_pass : Cond.selects R_B y_B_pass y_B_pass ∈ G0 := G0_of (i := 205) (by rfl) (by rfl)
theorem co_B_pass : Cond.code y_B_pass b_B_pass 3 (some .boolean) ∈ G0 := G0_of (i := 206) (by rfl) (by rfl)
theorem ml_B_89 : Cond.methodLink R_B 89 y_W_passOver ∈ G0 := G0_of (i := 207) (by rfl) (by rfl)
theorem im_W_passOver : Cond.instanceMethod y_W_passOver ∈ G0 := G0_of (i := 208) (by rfl) (by rfl)
theorem se_W_passOver : Cond.selects R_W y_W_passOver y_W_passOver ∈ G0 := G0_of (i := 209) (by rfl) (by rfl)
theorem co_W_passOver : Cond.code y_W_passOver b_W_passOver 7 (some .boolean) ∈ G0 := G0_of (i := 210) (by rfl) (by rfl)
theorem ml_W_63 : Cond.methodLink R_W 63 y_W_canPass ∈ G0 := G0_of (i := 211) (by rfl) (by rfl)
theorem im_W_canPass : Cond.instanceMethod y_W_canPass ∈ G0 := G0_of (i := 213) (by rfl) (by rfl)
theorem co_W_canPass : Cond.code y_W_canPass b_W_canPass 4 (some .boolean) ∈ G0 := G0_of (i := 214) (by rfl) (by rfl)
theorem ml_L_58 : Cond.methodLink R_L 58 y_B_grow ∈ G0 := G0_of (i := 215) (by rfl) (by rfl)
theorem im_B_grow : Cond.instanceMethod y_B_grow ∈ G0 := G0_of (i := 216) (by rfl) (by rfl)
theorem se_B_grow : Cond.selects R_B y_B_grow y_B_grow ∈ G0 := G0_of (i := 217) (by rfl) (by rfl)
theorem co_B_grow : Cond.code y_B_grow b_B_grow 3 (some .boolean) ∈ G0 := G0_of (i := 218) (by rfl) (by rfl)
theorem ml_B_92 : Cond.methodLink R_B 92 y_W_addStrand ∈ G0 := G0_of (i := 219) (by rfl) (by rfl)
theorem im_W_addStrand : Cond.instanceMethod y_W_addStrand ∈ G0 := G0_of (i := 220) (by rfl) (by rfl)
theorem se_W_addStrand : Cond.selects R_W y_W_addStrand y_W_addStrand ∈ G0 := G0_of (i := 221) (by rfl) (by rfl)
theorem co_W_addStrand : Cond.code y_W_addStrand b_W_addStrand 2 (some .boolean) ∈ G0 := G0_of (i := 222) (by rfl) (by rfl)
theorem ml_L_62 : Cond.methodLink R_L 62 y_B_shrink ∈ G0 := G0_of (i := 223) (by rfl) (by rfl)
theorem im_B_shrink : Cond.instanceMethod y_B_shrink ∈ G0 := G0_of (i := 224) (by rfl) (by rfl)
theorem se_B_shrink : Cond.selects R_B y_B_shrink y_B_shrink ∈ G0 := G0_of (i := 225) (by rfl) (by rfl)
theorem co_B_shrink : Cond.code y_B_shrink b_B_shrink 2 (some .boolean) ∈ G0 := G0_of (i := 226) (by rfl) (by rfl)
theorem ml_B_95 : Cond.methodLink R_B 95 y_W_dropStrand ∈ G0 := G0_of (i := 227) (by rfl) (by rfl)
theorem im_W_dropStrand : Cond.instanceMethod y_W_dropStrand ∈ G0 := G0_of (i := 228) (by rfl) (by rfl)
theorem se_W_dropStrand : Cond.selects R_W y_W_dropStrand y_W_dropStrand ∈ G0 := G0_of (i := 229) (by rfl) (by rfl)
theorem co_W_dropStrand : Cond.code y_W_dropStrand b_W_dropStrand 2 (some .boolean) ∈ G0 := G0_of (i := 230) (by rfl) (by rfl)
theorem ml_L_67 : Cond.methodLink R_L 67 y_B_same ∈ G0 := G0_of (i := 231) (by rfl) (by rfl)
theorem im_B_same : Cond.instanceMethod y_B_same ∈ G0 := G0_of (i := 232) (by rfl) (by rfl)
theorem se_B_same : Cond.selects R_B y_B_same y_B_same ∈ G0 := G0_of (i := 233) (by rfl) (by rfl)
theorem co_B_same : Cond.code y_B_same b_B_same 3 (some .boolean) ∈ G0 := G0_of (i := 234) (by rfl) (by rfl)
theorem ml_B_98 : Cond.methodLink R_B 98 y_B_formOf ∈ G0 := G0_of (i := 235) (by rfl) (by rfl)
theorem im_B_formOf : Cond.instanceMethod y_B_formOf ∈ G0 := G0_of (i := 237) (by rfl) (by rfl)
theorem co_B_formOf : Cond.code y_B_formOf b_B_formOf 2 (some (.object "BraidWords$NormalForm")) ∈ G0 := G0_of (i := 238) (by rfl) (by rfl)
theorem ml_B_124 : Cond.methodLink R_B 124 y_N_follow ∈ G0 := G0_of (i := 239) (by rfl) (by rfl)
theorem im_N_follow : Cond.instanceMethod y_N_follow ∈ G0 := G0_of (i := 240) (by rfl) (by rfl)
theorem se_N_follow : Cond.selects R_N y_N_follow y_N_follow ∈ G0 := G0_of (i := 241) (by rfl) (by rfl)
theorem co_N_follow : Cond.code y_N_follow b_N_follow 5 (none) ∈ G0 := G0_of (i := 242) (by rfl) (by rfl)
theorem ml_N_37 : Cond.methodLink R_N 37 y_W_equalTo ∈ G0 := G0_of (i := 243) (by rfl) (by rfl)
theorem im_W_equalTo : Cond.instanceMethod y_W_equalTo ∈ G0 := G0_of (i := 244) (by rfl) (by rfl)
theorem se_W_equalTo : Cond.selects R_W y_W_equalTo y_W_equalTo ∈ G0 := G0_of (i := 245) (by rfl) (by rfl)
theorem co_W_equalTo : Cond.code y_W_equalTo b_W_equalTo 3 (some .boolean) ∈ G0 := G0_of (i := 246) (by rfl) (by rfl)
theorem ml_N_41 : Cond.methodLink R_N 41 y_W_take ∈ G0 := G0_of (i := 247) (by rfl) (by rfl)
theorem ml_N_45 : Cond.methodLink R_N 45 y_W_negatives ∈ G0 := G0_of (i := 248) (by rfl) (by rfl)
theorem im_W_negatives : Cond.instanceMethod y_W_negatives ∈ G0 := G0_of (i := 249) (by rfl) (by rfl)
theorem se_W_negatives : Cond.selects R_W y_W_negatives y_W_negatives ∈ G0 := G0_of (i := 250) (by rfl) (by rfl)
theorem co_W_negatives : Cond.code y_W_negatives b_W_negatives 1 (some .int) ∈ G0 := G0_of (i := 251) (by rfl) (by rfl)
theorem ml_W_39 : Cond.methodLink R_W 39 y_W_signSum ∈ G0 := G0_of (i := 252) (by rfl) (by rfl)
theorem ml_N_58 : Cond.methodLink R_N 58 y_W_value ∈ G0 := G0_of (i := 253) (by rfl) (by rfl)
theorem ml_N_62 : Cond.methodLink R_N 62 y_N_appendSimple ∈ G0 := G0_of (i := 254) (by rfl) (by rfl)
theorem im_N_appendSimple : Cond.instanceMethod y_N_appendSimple ∈ G0 := G0_of (i := 256) (by rfl) (by rfl)
theorem co_N_appendSimple : Cond.code y_N_appendSimple b_N_appendSimple 6 (none) ∈ G0 := G0_of (i := 257) (by rfl) (by rfl)
theorem ml_N_66 : Cond.methodLink R_N 66 y_N_settle ∈ G0 := G0_of (i := 259) (by rfl) (by rfl)
theorem im_N_settle : Cond.instanceMethod y_N_settle ∈ G0 := G0_of (i := 261) (by rfl) (by rfl)
theorem co_N_settle : Cond.code y_N_settle b_N_settle 2 (none) ∈ G0 := G0_of (i := 262) (by rfl) (by rfl)
theorem ml_N_84 : Cond.methodLink R_N 84 y_N_moveOver ∈ G0 := G0_of (i := 263) (by rfl) (by rfl)
theorem im_N_moveOver : Cond.instanceMethod y_N_moveOver ∈ G0 := G0_of (i := 265) (by rfl) (by rfl)
theorem co_N_moveOver : Cond.code y_N_moveOver b_N_moveOver 7 (some .boolean) ∈ G0 := G0_of (i := 266) (by rfl) (by rfl)
theorem ml_N_95 : Cond.methodLink R_N 95 y_N_sweepOver ∈ G0 := G0_of (i := 267) (by rfl) (by rfl)
theorem im_N_sweepOver : Cond.instanceMethod y_N_sweepOver ∈ G0 := G0_of (i := 269) (by rfl) (by rfl)
theorem co_N_sweepOver : Cond.code y_N_sweepOver b_N_sweepOver 4 (some .boolean) ∈ G0 := G0_of (i := 270) (by rfl) (by rfl)
theorem ml_N_88 : Cond.methodLink R_N 88 y_N_isTurn ∈ G0 := G0_of (i := 271) (by rfl) (by rfl)
theorem im_N_isTurn : Cond.instanceMethod y_N_isTurn ∈ G0 := G0_of (i := 273) (by rfl) (by rfl)
theorem co_N_isTurn : Cond.code y_N_isTurn b_N_isTurn 3 (some .boolean) ∈ G0 := G0_of (i := 274) (by rfl) (by rfl)
theorem ml_N_92 : Cond.methodLink R_N 92 y_N_isNone ∈ G0 := G0_of (i := 275) (by rfl) (by rfl)
theorem im_N_isNone : Cond.instanceMethod y_N_isNone ∈ G0 := G0_of (i := 277) (by rfl) (by rfl)
theorem co_N_isNone : Cond.code y_N_isNone b_N_isNone 3 (some .boolean) ∈ G0 := G0_of (i := 278) (by rfl) (by rfl)
theorem ml_B_102 : Cond.methodLink R_B 102 y_N_equalTo ∈ G0 := G0_of (i := 279) (by rfl) (by rfl)
theorem im_N_equalTo : Cond.instanceMethod y_N_equalTo ∈ G0 := G0_of (i := 280) (by rfl) (by rfl)
theorem se_N_equalTo : Cond.selects R_N y_N_equalTo y_N_equalTo ∈ G0 := G0_of (i := 281) (by rfl) (by rfl)
theorem co_N_equalTo : Cond.code y_N_equalTo b_N_equalTo 4 (some .boolean) ∈ G0 := G0_of (i := 282) (by rfl) (by rfl)
theorem ml_N_69 : Cond.methodLink R_N 69 y_N_size ∈ G0 := G0_of (i := 283) (by rfl) (by rfl)
theorem im_N_size : Cond.instanceMethod y_N_size ∈ G0 := G0_of (i := 284) (by rfl) (by rfl)
theorem se_N_size : Cond.selects R_N y_N_size y_N_size ∈ G0 := G0_of (i := 285) (by rfl) (by rfl)
theorem co_N_size : Cond.code y_N_size b_N_size 1 (some .int) ∈ G0 := G0_of (i := 286) (by rfl) (by rfl)
theorem ml_N_76 : Cond.methodLink R_N 76 y_N_image ∈ G0 := G0_of (i := 287) (by rfl) (by rfl)
theorem im_N_image : Cond.instanceMethod y_N_image ∈ G0 := G0_of (i := 288) (by rfl) (by rfl)
theorem se_N_image : Cond.selects R_N y_N_image y_N_image ∈ G0 := G0_of (i := 289) (by rfl) (by rfl)
theorem co_N_image : Cond.code y_N_image b_N_image 3 (some .int) ∈ G0 := G0_of (i := 290) (by rfl) (by rfl)
theorem ml_N_72 : Cond.methodLink R_N 72 y_W_hasPlace ∈ G0 := G0_of (i := 291) (by rfl) (by rfl)
theorem ml_L_71 : Cond.methodLink R_L 71 y_B_form ∈ G0 := G0_of (i := 292) (by rfl) (by rfl)
theorem im_B_form : Cond.instanceMethod y_B_form ∈ G0 := G0_of (i := 293) (by rfl) (by rfl)
theorem se_B_form : Cond.selects R_B y_B_form y_B_form ∈ G0 := G0_of (i := 294) (by rfl) (by rfl)
theorem co_B_form : Cond.code y_B_form b_B_form 5 (some .int) ∈ G0 := G0_of (i := 295) (by rfl) (by rfl)
theorem ml_B_109 : Cond.methodLink R_B 109 y_N_image ∈ G0 := G0_of (i := 296) (by rfl) (by rfl)
theorem ml_L_76 : Cond.methodLink R_L 76 y_B_length ∈ G0 := G0_of (i := 297) (by rfl) (by rfl)
theorem im_B_length : Cond.instanceMethod y_B_length ∈ G0 := G0_of (i := 298) (by rfl) (by rfl)
theorem se_B_length : Cond.selects R_B y_B_length y_B_length ∈ G0 := G0_of (i := 299) (by rfl) (by rfl)
theorem co_B_length : Cond.code y_B_length b_B_length 2 (some .int) ∈ G0 := G0_of (i := 300) (by rfl) (by rfl)
theorem ml_B_113 : Cond.methodLink R_B 113 y_N_size ∈ G0 := G0_of (i := 301) (by rfl) (by rfl)
theorem ml_L_81 : Cond.methodLink R_L 81 y_B_crossing ∈ G0 := G0_of (i := 302) (by rfl) (by rfl)
theorem im_B_crossing : Cond.instanceMethod y_B_crossing ∈ G0 := G0_of (i := 303) (by rfl) (by rfl)
theorem se_B_crossing : Cond.selects R_B y_B_crossing y_B_crossing ∈ G0 := G0_of (i := 304) (by rfl) (by rfl)
theorem co_B_crossing : Cond.code y_B_crossing b_B_crossing 4 (some .int) ∈ G0 := G0_of (i := 305) (by rfl) (by rfl)
theorem ml_B_116 : Cond.methodLink R_B 116 y_JI_signum ∈ G0 := G0_of (i := 306) (by rfl) (by rfl)
theorem ml_B_121 : Cond.methodLink R_B 121 y_W_cornerLabel ∈ G0 := G0_of (i := 307) (by rfl) (by rfl)
theorem im_W_cornerLabel : Cond.instanceMethod y_W_cornerLabel ∈ G0 := G0_of (i := 308) (by rfl) (by rfl)
theorem se_W_cornerLabel : Cond.selects R_W y_W_cornerLabel y_W_cornerLabel ∈ G0 := G0_of (i := 309) (by rfl) (by rfl)
theorem co_W_cornerLabel : Cond.code y_W_cornerLabel b_W_cornerLabel 5 (some .int) ∈ G0 := G0_of (i := 310) (by rfl) (by rfl)
theorem ml_W_67 : Cond.methodLink R_W 67 y_W_labelAbove ∈ G0 := G0_of (i := 311) (by rfl) (by rfl)
theorem im_W_labelAbove : Cond.instanceMethod y_W_labelAbove ∈ G0 := G0_of (i := 313) (by rfl) (by rfl)
theorem co_W_labelAbove : Cond.code y_W_labelAbove b_W_labelAbove 4 (some .int) ∈ G0 := G0_of (i := 314) (by rfl) (by rfl)
theorem ml_W_74 : Cond.methodLink R_W 74 y_W_madeLabel ∈ G0 := G0_of (i := 315) (by rfl) (by rfl)
theorem im_W_madeLabel : Cond.instanceMethod y_W_madeLabel ∈ G0 := G0_of (i := 317) (by rfl) (by rfl)
theorem co_W_madeLabel : Cond.code y_W_madeLabel b_W_madeLabel 3 (some .int) ∈ G0 := G0_of (i := 318) (by rfl) (by rfl)
theorem ml_W_71 : Cond.methodLink R_W 71 y_W_labelBelow ∈ G0 := G0_of (i := 319) (by rfl) (by rfl)
theorem im_W_labelBelow : Cond.instanceMethod y_W_labelBelow ∈ G0 := G0_of (i := 321) (by rfl) (by rfl)
theorem co_W_labelBelow : Cond.code y_W_labelBelow b_W_labelBelow 3 (some .int) ∈ G0 := G0_of (i := 322) (by rfl) (by rfl)
theorem cl_L_10 : Cond.classLink R_L 10 R_M ∈ G0 := G0_of (i := 323) (by rfl) (by rfl)
theorem ia_M : Cond.instantiable R_M 19 ∈ G0 := G0_of (i := 324) (by rfl) (by rfl)
theorem ml_L_12 : Cond.methodLink R_L 12 y_M_init ∈ G0 := G0_of (i := 325) (by rfl) (by rfl)
theorem im_M_init : Cond.instanceMethod y_M_init ∈ G0 := G0_of (i := 326) (by rfl) (by rfl)
theorem co_M_init : Cond.code y_M_init b_M_init 1 (none) ∈ G0 := G0_of (i := 327) (by rfl) (by rfl)
theorem ml_M_1 : Cond.methodLink R_M 1 objectInit ∈ G0 := G0_of (i := 328) (by rfl) (by rfl)
theorem fl_M_7 : Cond.fieldLink R_M 7 R_M "strands" "[I" ∈ G0 := G0_of (i := 329) (by rfl) (by rfl)
theorem fl_M_13 : Cond.fieldLink R_M 13 R_M "size" "[I" ∈ G0 := G0_of (i := 330) (by rfl) (by rfl)
theorem fl_M_16 : Cond.fieldLink R_M 16 R_M "word" "[I" ∈ G0 := G0_of (i := 331) (by rfl) (by rfl)
theorem fl_M_19 : Cond.fieldLink R_M 19 R_M "letterOf" "[I" ∈ G0 := G0_of (i := 332) (by rfl) (by rfl)
theorem fl_M_22 : Cond.fieldLink R_M 22 R_M "next" "[I" ∈ G0 := G0_of (i := 333) (by rfl) (by rfl)
theorem fl_M_25 : Cond.fieldLink R_M 25 R_M "before" "[I" ∈ G0 := G0_of (i := 334) (by rfl) (by rfl)
theorem fl_M_88 : Cond.fieldLink R_M 88 R_M "made" "I" ∈ G0 := G0_of (i := 335) (by rfl) (by rfl)
theorem fl_M_91 : Cond.fieldLink R_M 91 R_M "free" "I" ∈ G0 := G0_of (i := 336) (by rfl) (by rfl)
theorem fl_M_105 : Cond.fieldLink R_M 105 R_M "positives" "I" ∈ G0 := G0_of (i := 337) (by rfl) (by rfl)
theorem fl_M_28 : Cond.fieldLink R_M 28 R_M "positive" "[I" ∈ G0 := G0_of (i := 338) (by rfl) (by rfl)
theorem fl_M_31 : Cond.fieldLink R_M 31 R_M "target" "[I" ∈ G0 := G0_of (i := 339) (by rfl) (by rfl)
theorem fl_M_34 : Cond.fieldLink R_M 34 R_M "ended" "[I" ∈ G0 := G0_of (i := 340) (by rfl) (by rfl)
theorem fl_M_37 : Cond.fieldLink R_M 37 R_M "known" "[Z" ∈ G0 := G0_of (i := 341) (by rfl) (by rfl)
theorem fl_M_41 : Cond.fieldLink R_M 41 R_M "turns" "[I" ∈ G0 := G0_of (i := 342) (by rfl) (by rfl)
theorem fl_M_44 : Cond.fieldLink R_M 44 R_M "simples" "[I" ∈ G0 := G0_of (i := 343) (by rfl) (by rfl)
theorem fl_M_47 : Cond.fieldLink R_M 47 R_M "simple" "[I" ∈ G0 := G0_of (i := 344) (by rfl) (by rfl)
theorem fl_M_50 : Cond.fieldLink R_M 50 R_M "label" "[I" ∈ G0 := G0_of (i := 345) (by rfl) (by rfl)
theorem fl_M_53 : Cond.fieldLink R_M 53 R_M "corner" "[I" ∈ G0 := G0_of (i := 346) (by rfl) (by rfl)
theorem ac_boolean : Cond.arrayClass .boolean ∈ G0 := G0_of (i := 386) (by rfl) (by rfl)
theorem ml_L_17 : Cond.methodLink R_L 17 y_M_strands ∈ G0 := G0_of (i := 387) (by rfl) (by rfl)
theorem im_M_strands : Cond.instanceMethod y_M_strands ∈ G0 := G0_of (i := 388) (by rfl) (by rfl)
theorem se_M_strands : Cond.selects R_M y_M_strands y_M_strands ∈ G0 := G0_of (i := 389) (by rfl) (by rfl)
theorem co_M_strands : Cond.code y_M_strands b_M_strands 3 (some .boolean) ∈ G0 := G0_of (i := 390) (by rfl) (by rfl)
theorem ml_M_60 : Cond.methodLink R_M 60 y_M_isSlot ∈ G0 := G0_of (i := 391) (by rfl) (by rfl)
theorem st_M_isSlot : Cond.static y_M_isSlot ∈ G0 := G0_of (i := 392) (by rfl) (by rfl)
theorem co_M_isSlot : Cond.code y_M_isSlot b_M_isSlot 1 (some .boolean) ∈ G0 := G0_of (i := 393) (by rfl) (by rfl)
theorem ml_L_22 : Cond.methodLink R_L 22 y_M_letter ∈ G0 := G0_of (i := 394) (by rfl) (by rfl)
theorem im_M_letter : Cond.instanceMethod y_M_letter ∈ G0 := G0_of (i := 395) (by rfl) (by rfl)
theorem se_M_letter : Cond.selects R_M y_M_letter y_M_letter ∈ G0 := G0_of (i := 396) (by rfl) (by rfl)
theorem co_M_letter : Cond.code y_M_letter b_M_letter 3 (some .int) ∈ G0 := G0_of (i := 397) (by rfl) (by rfl)
theorem ml_L_27 : Cond.methodLink R_L 27 y_M_copy ∈ G0 := G0_of (i := 398) (by rfl) (by rfl)
theorem im_M_copy : Cond.instanceMethod y_M_copy ∈ G0 := G0_of (i := 399) (by rfl) (by rfl)
theorem se_M_copy : Cond.selects R_M y_M_copy y_M_copy ∈ G0 := G0_of (i := 400) (by rfl) (by rfl)
set_option maxRecDepth 20000 in
theorem co_M_copy : Cond.code y_M_copy b_M_copy 6 (some .boolean) ∈ G0 := G0_of (i := 401) (by rfl) (by rfl)
set_option maxRecDepth 20000 in
theorem ml_M_64 : Cond.methodLink R_M 64 y_M_letterAt ∈ G0 := G0_of (i := 402) (by rfl) (by rfl)
set_option maxRecDepth 20000 in
theorem im_M_letterAt : Cond.instanceMethod y_M_letterAt ∈ G0 := G0_of (i := 404) (by rfl) (by rfl)
set_option maxRecDepth 20000 in
theorem co_M_letterAt : Cond.code y_M_letterAt b_M_letterAt 3 (some .int) ∈ G0 := G0_of (i := 405) (by rfl) (by rfl)
set_option maxRecDepth 20000 in
theorem ml_L_39 : Cond.methodLink R_L 39 y_M_end ∈ G0 := G0_of (i := 406) (by rfl) (by rfl)
set_option maxRecDepth 20000 in
theorem im_M_end : Cond.instanceMethod y_M_end ∈ G0 := G0_of (i := 407) (by rfl) (by rfl)
set_option maxRecDepth 20000 in
theorem se_M_end : Cond.selects R_M y_M_end y_M_end ∈ G0 := G0_of (i := 408) (by rfl) (by rfl)
set_option maxRecDepth 20000 in
theorem co_M_end : Cond.code y_M_end b_M_end 3 (some .int) ∈ G0 := G0_of (i := 409) (by rfl) (by rfl)
set_option maxRecDepth 20000 in
theorem ml_M_72 : Cond.methodLink R_M 72 y_M_endOf ∈ G0 := G0_of (i := 410) (by rfl) (by rfl)
set_option maxRecDepth 20000 in
theorem im_M_endOf : Cond.instanceMethod y_M_endOf ∈ G0 := G0_of (i := 412) (by rfl) (by rfl)
set_option maxRecDepth 20000 in
theorem co_M_endOf : Cond.code y_M_endOf b_M_endOf 6 (some .int) ∈ G0 := G0_of (i := 413) (by rfl) (by rfl)
set_option maxRecDepth 20000 in
theorem ml_M_68 : Cond.methodLink R_M 68 y_M_value ∈ G0 := G0_of (i := 414) (by rfl) (by rfl)
set_option maxRecDepth 20000 in
theorem st_M_value : Cond.static y_M_value ∈ G0 := G0_of (i := 415) (by rfl) (by rfl)
set_option maxRecDepth 20000 in
theorem co_M_value : Cond.code y_M_value b_M_value 1 (some .int) ∈ G0 := G0_of (i := 416) (by rfl) (by rfl)
set_option maxRecDepth 20000 in
theorem ml_L_31 : Cond.methodLink R_L 31 y_M_many ∈ G0 := G0_of (i := 417) (by rfl) (by rfl)
set_option maxRecDepth 20000 in
theorem im_M_many : Cond.instanceMethod y_M_many ∈ G0 := G0_of (i := 418) (by rfl) (by rfl)
set_option maxRecDepth 20000 in
theorem se_M_many : Cond.selects R_M y_M_many y_M_many ∈ G0 := G0_of (i := 419) (by rfl) (by rfl)
set_option maxRecDepth 20000 in
theorem co_M_many : Cond.code y_M_many b_M_many 3 (some .int) ∈ G0 := G0_of (i := 420) (by rfl) (by rfl)
set_option maxRecDepth 20000 in
theorem ml_M_75 : Cond.methodLink R_M 75 y_M_signs ∈ G0 := G0_of (i := 421) (by rfl) (by rfl)
set_option maxRecDepth 20000 in
theorem im_M_signs : Cond.instanceMethod y_M_signs ∈ G0 := G0_of (i := 423) (by rfl) (by rfl)
set_option maxRecDepth 20000 in
theorem co_M_signs : Cond.code y_M_signs b_M_signs 4 (some .int) ∈ G0 := G0_of (i := 424) (by rfl) (by rfl)
set_option maxRecDepth 20000 in
theorem ml_M_78 : Cond.methodLink R_M 78 y_M_rounds ∈ G0 := G0_of (i := 425) (by rfl) (by rfl)
set_option maxRecDepth 20000 in
theorem im_M_rounds : Cond.instanceMethod y_M_rounds ∈ G0 := G0_of (i := 427) (by rfl) (by rfl)
set_option maxRecDepth 20000 in
theorem co_M_rounds : Cond.code y_M_rounds b_M_rounds 6 (some .int) ∈ G0 := G0_of (i := 428) (by rfl) (by rfl)
set_option maxRecDepth 20000 in
theorem ml_M_81 : Cond.methodLink R_M 81 y_M_untouched ∈ G0 := G0_of (i := 429) (by rfl) (by rfl)
set_option maxRecDepth 20000 in
theorem im_M_untouched : Cond.instanceMethod y_M_untouched ∈ G0 := G0_of (i := 431) (by rfl) (by rfl)
set_option maxRecDepth 20000 in
theorem co_M_untouched : Cond.code y_M_untouched b_M_untouched 6 (some .int) ∈ G0 := G0_of (i := 432) (by rfl) (by rfl)
set_option maxRecDepth 20000 in
theorem ml_L_35 : Cond.methodLink R_L 35 y_M_at ∈ G0 := G0_of (i := 433) (by rfl) (by rfl)
set_option maxRecDepth 20000 in
theorem im_M_at : Cond.instanceMethod y_M_at ∈ G0 := G0_of (i := 434) (by rfl) (by rfl)
set_option maxRecDepth 20000 in
theorem se_M_at : Cond.selects R_M y_M_at y_M_at ∈ G0 := G0_of (i := 435) (by rfl) (by rfl)
set_option maxRecDepth 20000 in
theorem co_M_at : Cond.code y_M_at b_M_at 3 (some .int) ∈ G0 := G0_of (i := 436) (by rfl) (by rfl)
set_option maxRecDepth 20000 in
theorem ml_L_44 : Cond.methodLink R_L 44 y_M_reduce ∈ G0 := G0_of (i := 437) (by rfl) (by rfl)
set_option maxRecDepth 20000 in
theorem im_M_reduce : Cond.instanceMethod y_M_reduce ∈ G0 := G0_of (i := 438) (by rfl) (by rfl)
set_option maxRecDepth 20000 in
theorem se_M_reduce : Cond.selects R_M y_M_reduce y_M_reduce ∈ G0 := G0_of (i := 439) (by rfl) (by rfl)
set_option maxRecDepth 20000 in
theorem co_M_reduce : Cond.code y_M_reduce b_M_reduce 5 (some .int) ∈ G0 := G0_of (i := 440) (by rfl) (by rfl)
set_option maxRecDepth 20000 in
theorem ml_M_84 : Cond.methodLink R_M 84 y_M_remove ∈ G0 := G0_of (i := 441) (by rfl) (by rfl)
set_option maxRecDepth 20000 in
theorem im_M_remove : Cond.instanceMethod y_M_remove ∈ G0 := G0_of (i := 443) (by rfl) (by rfl)
set_option maxRecDepth 20000 in
theorem co_M_remove : Cond.code y_M_remove b_M_remove 4 (none) ∈ G0 := G0_of (i := 444) (by rfl) (by rfl)
set_option maxRecDepth 20000 in
theorem ml_L_49 : Cond.methodLink R_L 49 y_M_round ∈ G0 := G0_of (i := 445) (by rfl) (by rfl)
set_option maxRecDepth 20000 in
theorem im_M_round : Cond.instanceMethod y_M_round ∈ G0 := G0_of (i := 446) (by rfl) (by rfl)
set_option maxRecDepth 20000 in
theorem se_M_round : Cond.selects R_M y_M_round y_M_round ∈ G0 := G0_of (i := 447) (by rfl) (by rfl)
set_option maxRecDepth 20000 in
theorem co_M_round : Cond.code y_M_round b_M_round 6 (some .boolean) ∈ G0 := G0_of (i := 448) (by rfl) (by rfl)
set_option maxRecDepth 20000 in
theorem ml_L_53 : Cond.methodLink R_L 53 y_M_exchange ∈ G0 := G0_of (i := 449) (by rfl) (by rfl)
set_option maxRecDepth 20000 in
theorem im_M_exchange : Cond.instanceMethod y_M_exchange ∈ G0 := G0_of (i := 450) (by rfl) (by rfl)
set_option maxRecDepth 20000 in
theorem se_M_exchange : Cond.selects R_M y_M_exchange y_M_exchange ∈ G0 := G0_of (i := 451) (by rfl) (by rfl)
set_option maxRecDepth 20000 in
theorem co_M_exchange : Cond.code y_M_exchange b_M_exchange 6 (some .boolean) ∈ G0 := G0_of (i := 452) (by rfl) (by rfl)
set_option maxRecDepth 20000 in
theorem ml_L_57 : Cond.methodLink R_L 57 y_M_pass ∈ G0 := G0_of (i := 453) (by rfl) (by rfl)
set_option maxRecDepth 20000 in
theorem im_M_pass : Cond.instanceMethod y_M_pass ∈ G0 := G0_of (i := 454) (by rfl) (by rfl)
set_option maxRecDepth 20000 in
theorem se_M_pass : Cond.selects R_M y_M_pass y_M_pass ∈ G0 := G0_of (i := 455) (by rfl) (by rfl)
set_option maxRecDepth 20000 in
theorem co_M_pass : Cond.code y_M_pass b_M_pass 10 (some .boolean) ∈ G0 := G0_of (i := 456) (by rfl) (by rfl)
set_option maxRecDepth 20000 in
theorem ml_L_61 : Cond.methodLink R_L 61 y_M_grow ∈ G0 := G0_of (i := 457) (by rfl) (by rfl)
set_option maxRecDepth 20000 in
theorem im_M_grow : Cond.instanceMethod y_M_grow ∈ G0 := G0_of (i := 458) (by rfl) (by rfl)
set_option maxRecDepth 20000 in
theorem se_M_grow : Cond.selects R_M y_M_grow y_M_grow ∈ G0 := G0_of (i := 459) (by rfl) (by rfl)
set_option maxRecDepth 20000 in
theorem co_M_grow : Cond.code y_M_grow b_M_grow 3 (some .boolean) ∈ G0 := G0_of (i := 460) (by rfl) (by rfl)
set_option maxRecDepth 20000 in
theorem ml_L_66 : Cond.methodLink R_L 66 y_M_shrink ∈ G0 := G0_of (i := 461) (by rfl) (by rfl)
set_option maxRecDepth 20000 in
theorem im_M_shrink : Cond.instanceMethod y_M_shrink ∈ G0 := G0_of (i := 462) (by rfl) (by rfl)
set_option maxRecDepth 20000 in
theorem se_M_shrink : Cond.selects R_M y_M_shrink y_M_shrink ∈ G0 := G0_of (i := 463) (by rfl) (by rfl)
set_option maxRecDepth 20000 in
theorem co_M_shrink : Cond.code y_M_shrink b_M_shrink 4 (some .boolean) ∈ G0 := G0_of (i := 464) (by rfl) (by rfl)
set_option maxRecDepth 20000 in
theorem ml_L_70 : Cond.methodLink R_L 70 y_M_same ∈ G0 := G0_of (i := 465) (by rfl) (by rfl)
set_option maxRecDepth 20000 in
theorem im_M_same : Cond.instanceMethod y_M_same ∈ G0 := G0_of (i := 466) (by rfl) (by rfl)
set_option maxRecDepth 20000 in
theorem se_M_same : Cond.selects R_M y_M_same y_M_same ∈ G0 := G0_of (i := 467) (by rfl) (by rfl)
set_option maxRecDepth 20000 in
theorem co_M_same : Cond.code y_M_same b_M_same 5 (some .boolean) ∈ G0 := G0_of (i := 468) (by rfl) (by rfl)
set_option maxRecDepth 20000 in
theorem ml_M_129 : Cond.methodLink R_M 129 y_M_know ∈ G0 := G0_of (i := 469) (by rfl) (by rfl)
set_option maxRecDepth 20000 in
theorem im_M_know : Cond.instanceMethod y_M_know ∈ G0 := G0_of (i := 471) (by rfl) (by rfl)
set_option maxRecDepth 20000 in
theorem co_M_know : Cond.code y_M_know b_M_know 5 (none) ∈ G0 := G0_of (i := 472) (by rfl) (by rfl)
set_option maxRecDepth 20000 in
theorem ml_M_123 : Cond.methodLink R_M 123 y_M_makePositive ∈ G0 := G0_of (i := 473) (by rfl) (by rfl)
set_option maxRecDepth 20000 in
theorem im_M_makePositive : Cond.instanceMethod y_M_makePositive ∈ G0 := G0_of (i := 475) (by rfl) (by rfl)
set_option maxRecDepth 20000 in
theorem co_M_makePositive : Cond.code y_M_makePositive b_M_makePositive 7 (none) ∈ G0 := G0_of (i := 476) (by rfl) (by rfl)
set_option maxRecDepth 20000 in
theorem ml_M_108 : Cond.methodLink R_M 108 y_M_writeSimple ∈ G0 := G0_of (i := 477) (by rfl) (by rfl)
set_option maxRecDepth 20000 in
theorem im_M_writeSimple : Cond.instanceMethod y_M_writeSimple ∈ G0 := G0_of (i := 479) (by rfl) (by rfl)
set_option maxRecDepth 20000 in
theorem co_M_writeSimple : Cond.code y_M_writeSimple b_M_writeSimple 5 (none) ∈ G0 := G0_of (i := 480) (by rfl) (by rfl)
set_option maxRecDepth 20000 in
theorem ml_M_126 : Cond.methodLink R_M 126 y_M_takeSimple ∈ G0 := G0_of (i := 481) (by rfl) (by rfl)
set_option maxRecDepth 20000 in
theorem im_M_takeSimple : Cond.instanceMethod y_M_takeSimple ∈ G0 := G0_of (i := 483) (by rfl) (by rfl)
set_option maxRecDepth 20000 in
theorem co_M_takeSimple : Cond.code y_M_takeSimple b_M_takeSimple 7 (none) ∈ G0 := G0_of (i := 484) (by rfl) (by rfl)
set_option maxRecDepth 20000 in
theorem ml_M_111 : Cond.methodLink R_M 111 y_M_clearChain ∈ G0 := G0_of (i := 485) (by rfl) (by rfl)
set_option maxRecDepth 20000 in
theorem im_M_clearChain : Cond.instanceMethod y_M_clearChain ∈ G0 := G0_of (i := 487) (by rfl) (by rfl)
set_option maxRecDepth 20000 in
theorem co_M_clearChain : Cond.code y_M_clearChain b_M_clearChain 2 (none) ∈ G0 := G0_of (i := 488) (by rfl) (by rfl)
set_option maxRecDepth 20000 in
theorem ml_M_114 : Cond.methodLink R_M 114 y_M_writeTurn ∈ G0 := G0_of (i := 489) (by rfl) (by rfl)
set_option maxRecDepth 20000 in
theorem im_M_writeTurn : Cond.instanceMethod y_M_writeTurn ∈ G0 := G0_of (i := 491) (by rfl) (by rfl)
set_option maxRecDepth 20000 in
theorem co_M_writeTurn : Cond.code y_M_writeTurn b_M_writeTurn 3 (none) ∈ G0 := G0_of (i := 492) (by rfl) (by rfl)
set_option maxRecDepth 20000 in
theorem ml_M_98 : Cond.methodLink R_M 98 y_M_insert ∈ G0 := G0_of (i := 493) (by rfl) (by rfl)
set_option maxRecDepth 20000 in
theorem im_M_insert : Cond.instanceMethod y_M_insert ∈ G0 := G0_of (i := 495) (by rfl) (by rfl)
set_option maxRecDepth 20000 in
theorem co_M_insert : Cond.code y_M_insert b_M_insert 4 (some .int) ∈ G0 := G0_of (i := 496) (by rfl) (by rfl)
set_option maxRecDepth 20000 in
theorem ml_M_117 : Cond.methodLink R_M 117 y_M_turnRight ∈ G0 := G0_of (i := 497) (by rfl) (by rfl)
set_option maxRecDepth 20000 in
theorem im_M_turnRight : Cond.instanceMethod y_M_turnRight ∈ G0 := G0_of (i := 499) (by rfl) (by rfl)
set_option maxRecDepth 20000 in
theorem co_M_turnRight : Cond.code y_M_turnRight b_M_turnRight 7 (none) ∈ G0 := G0_of (i := 500) (by rfl) (by rfl)
set_option maxRecDepth 20000 in
theorem ml_M_94 : Cond.methodLink R_M 94 y_M_take ∈ G0 := G0_of (i := 501) (by rfl) (by rfl)
set_option maxRecDepth 20000 in
theorem im_M_take : Cond.instanceMethod y_M_take ∈ G0 := G0_of (i := 503) (by rfl) (by rfl)
set_option maxRecDepth 20000 in
theorem co_M_take : Cond.code y_M_take b_M_take 2 (none) ∈ G0 := G0_of (i := 504) (by rfl) (by rfl)
set_option maxRecDepth 20000 in
theorem ml_M_101 : Cond.methodLink R_M 101 y_M_isNear ∈ G0 := G0_of (i := 505) (by rfl) (by rfl)
set_option maxRecDepth 20000 in
theorem st_M_isNear : Cond.static y_M_isNear ∈ G0 := G0_of (i := 506) (by rfl) (by rfl)
set_option maxRecDepth 20000 in
theorem co_M_isNear : Cond.code y_M_isNear b_M_isNear 2 (some .boolean) ∈ G0 := G0_of (i := 507) (by rfl) (by rfl)
set_option maxRecDepth 20000 in
theorem ml_M_120 : Cond.methodLink R_M 120 y_M_turnLeft ∈ G0 := G0_of (i := 508) (by rfl) (by rfl)
set_option maxRecDepth 20000 in
theorem im_M_turnLeft : Cond.instanceMethod y_M_turnLeft ∈ G0 := G0_of (i := 510) (by rfl) (by rfl)
set_option maxRecDepth 20000 in
theorem co_M_turnLeft : Cond.code y_M_turnLeft b_M_turnLeft 7 (none) ∈ G0 := G0_of (i := 511) (by rfl) (by rfl)
set_option maxRecDepth 20000 in
theorem ml_L_75 : Cond.methodLink R_L 75 y_M_form ∈ G0 := G0_of (i := 512) (by rfl) (by rfl)
set_option maxRecDepth 20000 in
theorem im_M_form : Cond.instanceMethod y_M_form ∈ G0 := G0_of (i := 513) (by rfl) (by rfl)
set_option maxRecDepth 20000 in
theorem se_M_form : Cond.selects R_M y_M_form y_M_form ∈ G0 := G0_of (i := 514) (by rfl) (by rfl)
set_option maxRecDepth 20000 in
theorem co_M_form : Cond.code y_M_form b_M_form 4 (some .int) ∈ G0 := G0_of (i := 515) (by rfl) (by rfl)
set_option maxRecDepth 20000 in
theorem ml_L_80 : Cond.methodLink R_L 80 y_M_length ∈ G0 := G0_of (i := 516) (by rfl) (by rfl)
set_option maxRecDepth 20000 in
theorem im_M_length : Cond.instanceMethod y_M_length ∈ G0 := G0_of (i := 517) (by rfl) (by rfl)
set_option maxRecDepth 20000 in
theorem se_M_length : Cond.selects R_M y_M_length y_M_length ∈ G0 := G0_of (i := 518) (by rfl) (by rfl)
set_option maxRecDepth 20000 in
theorem co_M_length : Cond.code y_M_length b_M_length 2 (some .int) ∈ G0 := G0_of (i := 519) (by rfl) (by rfl)
set_option maxRecDepth 20000 in
theorem ml_L_84 : Cond.methodLink R_L 84 y_M_crossing ∈ G0 := G0_of (i := 520) (by rfl) (by rfl)
set_option maxRecDepth 20000 in
theorem im_M_crossing : Cond.instanceMethod y_M_crossing ∈ G0 := G0_of (i := 521) (by rfl) (by rfl)
set_option maxRecDepth 20000 in
theorem se_M_crossing : Cond.selects R_M y_M_crossing y_M_crossing ∈ G0 := G0_of (i := 522) (by rfl) (by rfl)
set_option maxRecDepth 20000 in
theorem co_M_crossing : Cond.code y_M_crossing b_M_crossing 4 (some .int) ∈ G0 := G0_of (i := 523) (by rfl) (by rfl)
set_option maxRecDepth 20000 in
theorem ml_M_132 : Cond.methodLink R_M 132 y_M_close ∈ G0 := G0_of (i := 524) (by rfl) (by rfl)
set_option maxRecDepth 20000 in
theorem im_M_close : Cond.instanceMethod y_M_close ∈ G0 := G0_of (i := 526) (by rfl) (by rfl)
set_option maxRecDepth 20000 in
theorem co_M_close : Cond.code y_M_close b_M_close 8 (none) ∈ G0 := G0_of (i := 527) (by rfl) (by rfl)
theorem la_W : ∀ w ∈ u_ws R_W F_W 3, w ∈ G0 := by decide +kernel
theorem la_N : ∀ w ∈ u_ws R_N F_N 6, w ∈ G0 := by decide +kernel
theorem la_B : ∀ w ∈ u_ws R_B F_B 2, w ∈ G0 := by decide +kernel
theorem la_M : ∀ w ∈ u_ws R_M F_M 19, w ∈ G0 := by decide +kernel
theorem hd_B_init : y_B_init.cls = R_B ∧ y_B_init.cls ≠ "java/lang/invoke/MethodHandle" ∧ y_B_init.cls ≠ "java/lang/invoke/VarHandle" ∧ (parseMethodDescriptor y_B_init.desc).map (fun d => d.parameters.length) = some 0 := by decide +kernel
theorem hd_W_init : y_W_init.cls = R_W ∧ y_W_init.cls ≠ "java/lang/invoke/MethodHandle" ∧ y_W_init.cls ≠ "java/lang/invoke/VarHandle" ∧ (parseMethodDescriptor y_W_init.desc).map (fun d => d.parameters.length) = some 0 := by decide +kernel
theorem hd_N_init : y_N_init.cls = R_N ∧ y_N_init.cls ≠ "java/lang/invoke/MethodHandle" ∧ y_N_init.cls ≠ "java/lang/invoke/VarHandle" ∧ (parseMethodDescriptor y_N_init.desc).map (fun d => d.parameters.length) = some 0 := by decide +kernel
theorem hd_B_strands : y_B_strands.cls = R_B ∧ y_B_strands.cls ≠ "java/lang/invoke/MethodHandle" ∧ y_B_strands.cls ≠ "java/lang/invoke/VarHandle" ∧ (parseMethodDescriptor y_B_strands.desc).map (fun d => d.parameters.length) = some 2 := by decide +kernel
theorem hd_B_isSlot : y_B_isSlot.cls = R_B ∧ y_B_isSlot.cls ≠ "java/lang/invoke/MethodHandle" ∧ y_B_isSlot.cls ≠ "java/lang/invoke/VarHandle" ∧ (parseMethodDescriptor y_B_isSlot.desc).map (fun d => d.parameters.length) = some 1 := by decide +kernel
theorem hd_W_clear : y_W_clear.cls = R_W ∧ y_W_clear.cls ≠ "java/lang/invoke/MethodHandle" ∧ y_W_clear.cls ≠ "java/lang/invoke/VarHandle" ∧ (parseMethodDescriptor y_W_clear.desc).map (fun d => d.parameters.length) = some 1 := by decide +kernel
theorem hd_B_letter : y_B_letter.cls = R_B ∧ y_B_letter.cls ≠ "java/lang/invoke/MethodHandle" ∧ y_B_letter.cls ≠ "java/lang/invoke/VarHandle" ∧ (parseMethodDescriptor y_B_letter.desc).map (fun d => d.parameters.length) = some 2 := by decide +kernel
theorem hd_W_append : y_W_append.cls = R_W ∧ y_W_append.cls ≠ "java/lang/invoke/MethodHandle" ∧ y_W_append.cls ≠ "java/lang/invoke/VarHandle" ∧ (parseMethodDescriptor y_W_append.desc).map (fun d => d.parameters.length) = some 1 := by decide +kernel
theorem hd_B_copy : y_B_copy.cls = R_B ∧ y_B_copy.cls ≠ "java/lang/invoke/MethodHandle" ∧ y_B_copy.cls ≠ "java/lang/invoke/VarHandle" ∧ (parseMethodDescriptor y_B_copy.desc).map (fun d => d.parameters.length) = some 3 := by decide +kernel
theorem hd_W_take : y_W_take.cls = R_W ∧ y_W_take.cls ≠ "java/lang/invoke/MethodHandle" ∧ y_W_take.cls ≠ "java/lang/invoke/VarHandle" ∧ (parseMethodDescriptor y_W_take.desc).map (fun d => d.parameters.length) = some 1 := by decide +kernel
theorem hd_W_invert : y_W_invert.cls = R_W ∧ y_W_invert.cls ≠ "java/lang/invoke/MethodHandle" ∧ y_W_invert.cls ≠ "java/lang/invoke/VarHandle" ∧ (parseMethodDescriptor y_W_invert.desc).map (fun d => d.parameters.length) = some 0 := by decide +kernel
theorem hd_B_many : y_B_many.cls = R_B ∧ y_B_many.cls ≠ "java/lang/invoke/MethodHandle" ∧ y_B_many.cls ≠ "java/lang/invoke/VarHandle" ∧ (parseMethodDescriptor y_B_many.desc).map (fun d => d.parameters.length) = some 2 := by decide +kernel
theorem hd_W_signSum : y_W_signSum.cls = R_W ∧ y_W_signSum.cls ≠ "java/lang/invoke/MethodHandle" ∧ y_W_signSum.cls ≠ "java/lang/invoke/VarHandle" ∧ (parseMethodDescriptor y_W_signSum.desc).map (fun d => d.parameters.length) = some 0 := by decide +kernel
theorem hd_JI_signum : y_JI_signum.cls = R_JI ∧ y_JI_signum.cls ≠ "java/lang/invoke/MethodHandle" ∧ y_JI_signum.cls ≠ "java/lang/invoke/VarHandle" ∧ (parseMethodDescriptor y_JI_signum.desc).map (fun d => d.parameters.length) = some 1 := by decide +kernel
theorem hd_W_components : y_W_components.cls = R_W ∧ y_W_components.cls ≠ "java/lang/invoke/MethodHandle" ∧ y_W_components.cls ≠ "java/lang/invoke/VarHandle" ∧ (parseMethodDescriptor y_W_components.desc).map (fun d => d.parameters.length) = some 0 := by decide +kernel
theorem hd_W_endOf : y_W_endOf.cls = R_W ∧ y_W_endOf.cls ≠ "java/lang/invoke/MethodHandle" ∧ y_W_endOf.cls ≠ "java/lang/invoke/VarHandle" ∧ (parseMethodDescriptor y_W_endOf.desc).map (fun d => d.parameters.length) = some 1 := by decide +kernel
theorem hd_W_value : y_W_value.cls = R_W ∧ y_W_value.cls ≠ "java/lang/invoke/MethodHandle" ∧ y_W_value.cls ≠ "java/lang/invoke/VarHandle" ∧ (parseMethodDescriptor y_W_value.desc).map (fun d => d.parameters.length) = some 1 := by decide +kernel
theorem hd_JM_abs : y_JM_abs.cls = R_JM ∧ y_JM_abs.cls ≠ "java/lang/invoke/MethodHandle" ∧ y_JM_abs.cls ≠ "java/lang/invoke/VarHandle" ∧ (parseMethodDescriptor y_JM_abs.desc).map (fun d => d.parameters.length) = some 1 := by decide +kernel
theorem hd_W_circles : y_W_circles.cls = R_W ∧ y_W_circles.cls ≠ "java/lang/invoke/MethodHandle" ∧ y_W_circles.cls ≠ "java/lang/invoke/VarHandle" ∧ (parseMethodDescriptor y_W_circles.desc).map (fun d => d.parameters.length) = some 0 := by decide +kernel
theorem hd_W_touchedFrom : y_W_touchedFrom.cls = R_W ∧ y_W_touchedFrom.cls ≠ "java/lang/invoke/MethodHandle" ∧ y_W_touchedFrom.cls ≠ "java/lang/invoke/VarHandle" ∧ (parseMethodDescriptor y_W_touchedFrom.desc).map (fun d => d.parameters.length) = some 2 := by decide +kernel
theorem hd_W_touches : y_W_touches.cls = R_W ∧ y_W_touches.cls ≠ "java/lang/invoke/MethodHandle" ∧ y_W_touches.cls ≠ "java/lang/invoke/VarHandle" ∧ (parseMethodDescriptor y_W_touches.desc).map (fun d => d.parameters.length) = some 2 := by decide +kernel
theorem hd_B_at : y_B_at.cls = R_B ∧ y_B_at.cls ≠ "java/lang/invoke/MethodHandle" ∧ y_B_at.cls ≠ "java/lang/invoke/VarHandle" ∧ (parseMethodDescriptor y_B_at.desc).map (fun d => d.parameters.length) = some 2 := by decide +kernel
theorem hd_W_hasLetters : y_W_hasLetters.cls = R_W ∧ y_W_hasLetters.cls ≠ "java/lang/invoke/MethodHandle" ∧ y_W_hasLetters.cls ≠ "java/lang/invoke/VarHandle" ∧ (parseMethodDescriptor y_W_hasLetters.desc).map (fun d => d.parameters.length) = some 2 := by decide +kernel
theorem hd_B_end : y_B_end.cls = R_B ∧ y_B_end.cls ≠ "java/lang/invoke/MethodHandle" ∧ y_B_end.cls ≠ "java/lang/invoke/VarHandle" ∧ (parseMethodDescriptor y_B_end.desc).map (fun d => d.parameters.length) = some 2 := by decide +kernel
theorem hd_W_hasPlace : y_W_hasPlace.cls = R_W ∧ y_W_hasPlace.cls ≠ "java/lang/invoke/MethodHandle" ∧ y_W_hasPlace.cls ≠ "java/lang/invoke/VarHandle" ∧ (parseMethodDescriptor y_W_hasPlace.desc).map (fun d => d.parameters.length) = some 1 := by decide +kernel
theorem hd_B_reduce : y_B_reduce.cls = R_B ∧ y_B_reduce.cls ≠ "java/lang/invoke/MethodHandle" ∧ y_B_reduce.cls ≠ "java/lang/invoke/VarHandle" ∧ (parseMethodDescriptor y_B_reduce.desc).map (fun d => d.parameters.length) = some 2 := by decide +kernel
theorem hd_W_cancelNeighbours : y_W_cancelNeighbours.cls = R_W ∧ y_W_cancelNeighbours.cls ≠ "java/lang/invoke/MethodHandle" ∧ y_W_cancelNeighbours.cls ≠ "java/lang/invoke/VarHandle" ∧ (parseMethodDescriptor y_W_cancelNeighbours.desc).map (fun d => d.parameters.length) = some 0 := by decide +kernel
theorem hd_W_cancelEnds : y_W_cancelEnds.cls = R_W ∧ y_W_cancelEnds.cls ≠ "java/lang/invoke/MethodHandle" ∧ y_W_cancelEnds.cls ≠ "java/lang/invoke/VarHandle" ∧ (parseMethodDescriptor y_W_cancelEnds.desc).map (fun d => d.parameters.length) = some 0 := by decide +kernel
theorem hd_B_round : y_B_round.cls = R_B ∧ y_B_round.cls ≠ "java/lang/invoke/MethodHandle" ∧ y_B_round.cls ≠ "java/lang/invoke/VarHandle" ∧ (parseMethodDescriptor y_B_round.desc).map (fun d => d.parameters.length) = some 2 := by decide +kernel
theorem hd_W_lastToFront : y_W_lastToFront.cls = R_W ∧ y_W_lastToFront.cls ≠ "java/lang/invoke/MethodHandle" ∧ y_W_lastToFront.cls ≠ "java/lang/invoke/VarHandle" ∧ (parseMethodDescriptor y_W_lastToFront.desc).map (fun d => d.parameters.length) = some 0 := by decide +kernel
theorem hd_W_firstToBack : y_W_firstToBack.cls = R_W ∧ y_W_firstToBack.cls ≠ "java/lang/invoke/MethodHandle" ∧ y_W_firstToBack.cls ≠ "java/lang/invoke/VarHandle" ∧ (parseMethodDescriptor y_W_firstToBack.desc).map (fun d => d.parameters.length) = some 0 := by decide +kernel
theorem hd_B_exchange : y_B_exchange.cls = R_B ∧ y_B_exchange.cls ≠ "java/lang/invoke/MethodHandle" ∧ y_B_exchange.cls ≠ "java/lang/invoke/VarHandle" ∧ (parseMethodDescriptor y_B_exchange.desc).map (fun d => d.parameters.length) = some 2 := by decide +kernel
theorem hd_W_swapFar : y_W_swapFar.cls = R_W ∧ y_W_swapFar.cls ≠ "java/lang/invoke/MethodHandle" ∧ y_W_swapFar.cls ≠ "java/lang/invoke/VarHandle" ∧ (parseMethodDescriptor y_W_swapFar.desc).map (fun d => d.parameters.length) = some 1 := by decide +kernel
theorem hd_B_swapAt : y_B_swapAt.cls = R_B ∧ y_B_swapAt.cls ≠ "java/lang/invoke/MethodHandle" ∧ y_B_swapAt.cls ≠ "java/lang/invoke/VarHandle" ∧ (parseMethodDescriptor y_B_swapAt.desc).map (fun d => d.parameters.length) = some 2 := by decide +kernel
theorem hd_B_pass : y_B_pass.cls = R_B ∧ y_B_pass.cls ≠ "java/lang/invoke/MethodHandle" ∧ y_B_pass.cls ≠ "java/lang/invoke/VarHandle" ∧ (parseMethodDescriptor y_B_pass.desc).map (fun d => d.parameters.length) = some 2 := by decide +kernel
theorem hd_W_passOver : y_W_passOver.cls = R_W ∧ y_W_passOver.cls ≠ "java/lang/invoke/MethodHandle" ∧ y_W_passOver.cls ≠ "java/lang/invoke/VarHandle" ∧ (parseMethodDescriptor y_W_passOver.desc).map (fun d => d.parameters.length) = some 1 := by decide +kernel
theorem hd_W_canPass : y_W_canPass.cls = R_W ∧ y_W_canPass.cls ≠ "java/lang/invoke/MethodHandle" ∧ y_W_canPass.cls ≠ "java/lang/invoke/VarHandle" ∧ (parseMethodDescriptor y_W_canPass.desc).map (fun d => d.parameters.length) = some 1 := by decide +kernel
theorem hd_B_grow : y_B_grow.cls = R_B ∧ y_B_grow.cls ≠ "java/lang/invoke/MethodHandle" ∧ y_B_grow.cls ≠ "java/lang/invoke/VarHandle" ∧ (parseMethodDescriptor y_B_grow.desc).map (fun d => d.parameters.length) = some 2 := by decide +kernel
theorem hd_W_addStrand : y_W_addStrand.cls = R_W ∧ y_W_addStrand.cls ≠ "java/lang/invoke/MethodHandle" ∧ y_W_addStrand.cls ≠ "java/lang/invoke/VarHandle" ∧ (parseMethodDescriptor y_W_addStrand.desc).map (fun d => d.parameters.length) = some 1 := by decide +kernel
theorem hd_B_shrink : y_B_shrink.cls = R_B ∧ y_B_shrink.cls ≠ "java/lang/invoke/MethodHandle" ∧ y_B_shrink.cls ≠ "java/lang/invoke/VarHandle" ∧ (parseMethodDescriptor y_B_shrink.desc).map (fun d => d.parameters.length) = some 1 := by decide +kernel
theorem hd_W_dropStrand : y_W_dropStrand.cls = R_W ∧ y_W_dropStrand.cls ≠ "java/lang/invoke/MethodHandle" ∧ y_W_dropStrand.cls ≠ "java/lang/invoke/VarHandle" ∧ (parseMethodDescriptor y_W_dropStrand.desc).map (fun d => d.parameters.length) = some 0 := by decide +kernel
theorem hd_B_same : y_B_same.cls = R_B ∧ y_B_same.cls ≠ "java/lang/invoke/MethodHandle" ∧ y_B_same.cls ≠ "java/lang/invoke/VarHandle" ∧ (parseMethodDescriptor y_B_same.desc).map (fun d => d.parameters.length) = some 2 := by decide +kernel
theorem hd_B_formOf : y_B_formOf.cls = R_B ∧ y_B_formOf.cls ≠ "java/lang/invoke/MethodHandle" ∧ y_B_formOf.cls ≠ "java/lang/invoke/VarHandle" ∧ (parseMethodDescriptor y_B_formOf.desc).map (fun d => d.parameters.length) = some 1 := by decide +kernel
theorem hd_N_follow : y_N_follow.cls = R_N ∧ y_N_follow.cls ≠ "java/lang/invoke/MethodHandle" ∧ y_N_follow.cls ≠ "java/lang/invoke/VarHandle" ∧ (parseMethodDescriptor y_N_follow.desc).map (fun d => d.parameters.length) = some 1 := by decide +kernel
theorem hd_W_equalTo : y_W_equalTo.cls = R_W ∧ y_W_equalTo.cls ≠ "java/lang/invoke/MethodHandle" ∧ y_W_equalTo.cls ≠ "java/lang/invoke/VarHandle" ∧ (parseMethodDescriptor y_W_equalTo.desc).map (fun d => d.parameters.length) = some 1 := by decide +kernel
theorem hd_W_negatives : y_W_negatives.cls = R_W ∧ y_W_negatives.cls ≠ "java/lang/invoke/MethodHandle" ∧ y_W_negatives.cls ≠ "java/lang/invoke/VarHandle" ∧ (parseMethodDescriptor y_W_negatives.desc).map (fun d => d.parameters.length) = some 0 := by decide +kernel
theorem hd_N_appendSimple : y_N_appendSimple.cls = R_N ∧ y_N_appendSimple.cls ≠ "java/lang/invoke/MethodHandle" ∧ y_N_appendSimple.cls ≠ "java/lang/invoke/VarHandle" ∧ (parseMethodDescriptor y_N_appendSimple.desc).map (fun d => d.parameters.length) = some 2 := by decide +kernel
theorem hd_N_settle : y_N_settle.cls = R_N ∧ y_N_settle.cls ≠ "java/lang/invoke/MethodHandle" ∧ y_N_settle.cls ≠ "java/lang/invoke/VarHandle" ∧ (parseMethodDescriptor y_N_settle.desc).map (fun d => d.parameters.length) = some 0 := by decide +kernel
theorem hd_N_moveOver : y_N_moveOver.cls = R_N ∧ y_N_moveOver.cls ≠ "java/lang/invoke/MethodHandle" ∧ y_N_moveOver.cls ≠ "java/lang/invoke/VarHandle" ∧ (parseMethodDescriptor y_N_moveOver.desc).map (fun d => d.parameters.length) = some 2 := by decide +kernel
theorem hd_N_sweepOver : y_N_sweepOver.cls = R_N ∧ y_N_sweepOver.cls ≠ "java/lang/invoke/MethodHandle" ∧ y_N_sweepOver.cls ≠ "java/lang/invoke/VarHandle" ∧ (parseMethodDescriptor y_N_sweepOver.desc).map (fun d => d.parameters.length) = some 1 := by decide +kernel
theorem hd_N_isTurn : y_N_isTurn.cls = R_N ∧ y_N_isTurn.cls ≠ "java/lang/invoke/MethodHandle" ∧ y_N_isTurn.cls ≠ "java/lang/invoke/VarHandle" ∧ (parseMethodDescriptor y_N_isTurn.desc).map (fun d => d.parameters.length) = some 1 := by decide +kernel
theorem hd_N_isNone : y_N_isNone.cls = R_N ∧ y_N_isNone.cls ≠ "java/lang/invoke/MethodHandle" ∧ y_N_isNone.cls ≠ "java/lang/invoke/VarHandle" ∧ (parseMethodDescriptor y_N_isNone.desc).map (fun d => d.parameters.length) = some 1 := by decide +kernel
theorem hd_N_equalTo : y_N_equalTo.cls = R_N ∧ y_N_equalTo.cls ≠ "java/lang/invoke/MethodHandle" ∧ y_N_equalTo.cls ≠ "java/lang/invoke/VarHandle" ∧ (parseMethodDescriptor y_N_equalTo.desc).map (fun d => d.parameters.length) = some 1 := by decide +kernel
theorem hd_N_size : y_N_size.cls = R_N ∧ y_N_size.cls ≠ "java/lang/invoke/MethodHandle" ∧ y_N_size.cls ≠ "java/lang/invoke/VarHandle" ∧ (parseMethodDescriptor y_N_size.desc).map (fun d => d.parameters.length) = some 0 := by decide +kernel
theorem hd_N_image : y_N_image.cls = R_N ∧ y_N_image.cls ≠ "java/lang/invoke/MethodHandle" ∧ y_N_image.cls ≠ "java/lang/invoke/VarHandle" ∧ (parseMethodDescriptor y_N_image.desc).map (fun d => d.parameters.length) = some 2 := by decide +kernel
theorem hd_B_form : y_B_form.cls = R_B ∧ y_B_form.cls ≠ "java/lang/invoke/MethodHandle" ∧ y_B_form.cls ≠ "java/lang/invoke/VarHandle" ∧ (parseMethodDescriptor y_B_form.desc).map (fun d => d.parameters.length) = some 3 := by decide +kernel
theorem hd_B_length : y_B_length.cls = R_B ∧ y_B_length.cls ≠ "java/lang/invoke/MethodHandle" ∧ y_B_length.cls ≠ "java/lang/invoke/VarHandle" ∧ (parseMethodDescriptor y_B_length.desc).map (fun d => d.parameters.length) = some 1 := by decide +kernel
theorem hd_B_crossing : y_B_crossing.cls = R_B ∧ y_B_crossing.cls ≠ "java/lang/invoke/MethodHandle" ∧ y_B_crossing.cls ≠ "java/lang/invoke/VarHandle" ∧ (parseMethodDescriptor y_B_crossing.desc).map (fun d => d.parameters.length) = some 3 := by decide +kernel
theorem hd_W_cornerLabel : y_W_cornerLabel.cls = R_W ∧ y_W_cornerLabel.cls ≠ "java/lang/invoke/MethodHandle" ∧ y_W_cornerLabel.cls ≠ "java/lang/invoke/VarHandle" ∧ (parseMethodDescriptor y_W_cornerLabel.desc).map (fun d => d.parameters.length) = some 2 := by decide +kernel
theorem hd_W_labelAbove : y_W_labelAbove.cls = R_W ∧ y_W_labelAbove.cls ≠ "java/lang/invoke/MethodHandle" ∧ y_W_labelAbove.cls ≠ "java/lang/invoke/VarHandle" ∧ (parseMethodDescriptor y_W_labelAbove.desc).map (fun d => d.parameters.length) = some 2 := by decide +kernel
theorem hd_W_madeLabel : y_W_madeLabel.cls = R_W ∧ y_W_madeLabel.cls ≠ "java/lang/invoke/MethodHandle" ∧ y_W_madeLabel.cls ≠ "java/lang/invoke/VarHandle" ∧ (parseMethodDescriptor y_W_madeLabel.desc).map (fun d => d.parameters.length) = some 2 := by decide +kernel
theorem hd_W_labelBelow : y_W_labelBelow.cls = R_W ∧ y_W_labelBelow.cls ≠ "java/lang/invoke/MethodHandle" ∧ y_W_labelBelow.cls ≠ "java/lang/invoke/VarHandle" ∧ (parseMethodDescriptor y_W_labelBelow.desc).map (fun d => d.parameters.length) = some 2 := by decide +kernel
theorem hd_M_init : y_M_init.cls = R_M ∧ y_M_init.cls ≠ "java/lang/invoke/MethodHandle" ∧ y_M_init.cls ≠ "java/lang/invoke/VarHandle" ∧ (parseMethodDescriptor y_M_init.desc).map (fun d => d.parameters.length) = some 0 := by decide +kernel
theorem hd_M_strands : y_M_strands.cls = R_M ∧ y_M_strands.cls ≠ "java/lang/invoke/MethodHandle" ∧ y_M_strands.cls ≠ "java/lang/invoke/VarHandle" ∧ (parseMethodDescriptor y_M_strands.desc).map (fun d => d.parameters.length) = some 2 := by decide +kernel
theorem hd_M_isSlot : y_M_isSlot.cls = R_M ∧ y_M_isSlot.cls ≠ "java/lang/invoke/MethodHandle" ∧ y_M_isSlot.cls ≠ "java/lang/invoke/VarHandle" ∧ (parseMethodDescriptor y_M_isSlot.desc).map (fun d => d.parameters.length) = some 1 := by decide +kernel
theorem hd_M_letter : y_M_letter.cls = R_M ∧ y_M_letter.cls ≠ "java/lang/invoke/MethodHandle" ∧ y_M_letter.cls ≠ "java/lang/invoke/VarHandle" ∧ (parseMethodDescriptor y_M_letter.desc).map (fun d => d.parameters.length) = some 2 := by decide +kernel
theorem hd_M_copy : y_M_copy.cls = R_M ∧ y_M_copy.cls ≠ "java/lang/invoke/MethodHandle" ∧ y_M_copy.cls ≠ "java/lang/invoke/VarHandle" ∧ (parseMethodDescriptor y_M_copy.desc).map (fun d => d.parameters.length) = some 3 := by decide +kernel
theorem hd_M_letterAt : y_M_letterAt.cls = R_M ∧ y_M_letterAt.cls ≠ "java/lang/invoke/MethodHandle" ∧ y_M_letterAt.cls ≠ "java/lang/invoke/VarHandle" ∧ (parseMethodDescriptor y_M_letterAt.desc).map (fun d => d.parameters.length) = some 2 := by decide +kernel
theorem hd_M_end : y_M_end.cls = R_M ∧ y_M_end.cls ≠ "java/lang/invoke/MethodHandle" ∧ y_M_end.cls ≠ "java/lang/invoke/VarHandle" ∧ (parseMethodDescriptor y_M_end.desc).map (fun d => d.parameters.length) = some 2 := by decide +kernel
theorem hd_M_endOf : y_M_endOf.cls = R_M ∧ y_M_endOf.cls ≠ "java/lang/invoke/MethodHandle" ∧ y_M_endOf.cls ≠ "java/lang/invoke/VarHandle" ∧ (parseMethodDescriptor y_M_endOf.desc).map (fun d => d.parameters.length) = some 2 := by decide +kernel
theorem hd_M_value : y_M_value.cls = R_M ∧ y_M_value.cls ≠ "java/lang/invoke/MethodHandle" ∧ y_M_value.cls ≠ "java/lang/invoke/VarHandle" ∧ (parseMethodDescriptor y_M_value.desc).map (fun d => d.parameters.length) = some 1 := by decide +kernel
theorem hd_M_many : y_M_many.cls = R_M ∧ y_M_many.cls ≠ "java/lang/invoke/MethodHandle" ∧ y_M_many.cls ≠ "java/lang/invoke/VarHandle" ∧ (parseMethodDescriptor y_M_many.desc).map (fun d => d.parameters.length) = some 2 := by decide +kernel
theorem hd_M_signs : y_M_signs.cls = R_M ∧ y_M_signs.cls ≠ "java/lang/invoke/MethodHandle" ∧ y_M_signs.cls ≠ "java/lang/invoke/VarHandle" ∧ (parseMethodDescriptor y_M_signs.desc).map (fun d => d.parameters.length) = some 1 := by decide +kernel
theorem hd_M_rounds : y_M_rounds.cls = R_M ∧ y_M_rounds.cls ≠ "java/lang/invoke/MethodHandle" ∧ y_M_rounds.cls ≠ "java/lang/invoke/VarHandle" ∧ (parseMethodDescriptor y_M_rounds.desc).map (fun d => d.parameters.length) = some 1 := by decide +kernel
theorem hd_M_untouched : y_M_untouched.cls = R_M ∧ y_M_untouched.cls ≠ "java/lang/invoke/MethodHandle" ∧ y_M_untouched.cls ≠ "java/lang/invoke/VarHandle" ∧ (parseMethodDescriptor y_M_untouched.desc).map (fun d => d.parameters.length) = some 1 := by decide +kernel
theorem hd_M_at : y_M_at.cls = R_M ∧ y_M_at.cls ≠ "java/lang/invoke/MethodHandle" ∧ y_M_at.cls ≠ "java/lang/invoke/VarHandle" ∧ (parseMethodDescriptor y_M_at.desc).map (fun d => d.parameters.length) = some 2 := by decide +kernel
theorem hd_M_reduce : y_M_reduce.cls = R_M ∧ y_M_reduce.cls ≠ "java/lang/invoke/MethodHandle" ∧ y_M_reduce.cls ≠ "java/lang/invoke/VarHandle" ∧ (parseMethodDescriptor y_M_reduce.desc).map (fun d => d.parameters.length) = some 2 := by decide +kernel
theorem hd_M_remove : y_M_remove.cls = R_M ∧ y_M_remove.cls ≠ "java/lang/invoke/MethodHandle" ∧ y_M_remove.cls ≠ "java/lang/invoke/VarHandle" ∧ (parseMethodDescriptor y_M_remove.desc).map (fun d => d.parameters.length) = some 2 := by decide +kernel
theorem hd_M_round : y_M_round.cls = R_M ∧ y_M_round.cls ≠ "java/lang/invoke/MethodHandle" ∧ y_M_round.cls ≠ "java/lang/invoke/VarHandle" ∧ (parseMethodDescriptor y_M_round.desc).map (fun d => d.parameters.length) = some 2 := by decide +kernel
theorem hd_M_exchange : y_M_exchange.cls = R_M ∧ y_M_exchange.cls ≠ "java/lang/invoke/MethodHandle" ∧ y_M_exchange.cls ≠ "java/lang/invoke/VarHandle" ∧ (parseMethodDescriptor y_M_exchange.desc).map (fun d => d.parameters.length) = some 2 := by decide +kernel
theorem hd_M_pass : y_M_pass.cls = R_M ∧ y_M_pass.cls ≠ "java/lang/invoke/MethodHandle" ∧ y_M_pass.cls ≠ "java/lang/invoke/VarHandle" ∧ (parseMethodDescriptor y_M_pass.desc).map (fun d => d.parameters.length) = some 2 := by decide +kernel
theorem hd_M_grow : y_M_grow.cls = R_M ∧ y_M_grow.cls ≠ "java/lang/invoke/MethodHandle" ∧ y_M_grow.cls ≠ "java/lang/invoke/VarHandle" ∧ (parseMethodDescriptor y_M_grow.desc).map (fun d => d.parameters.length) = some 2 := by decide +kernel
theorem hd_M_shrink : y_M_shrink.cls = R_M ∧ y_M_shrink.cls ≠ "java/lang/invoke/MethodHandle" ∧ y_M_shrink.cls ≠ "java/lang/invoke/VarHandle" ∧ (parseMethodDescriptor y_M_shrink.desc).map (fun d => d.parameters.length) = some 1 := by decide +kernel
theorem hd_M_same : y_M_same.cls = R_M ∧ y_M_same.cls ≠ "java/lang/invoke/MethodHandle" ∧ y_M_same.cls ≠ "java/lang/invoke/VarHandle" ∧ (parseMethodDescriptor y_M_same.desc).map (fun d => d.parameters.length) = some 2 := by decide +kernel
theorem hd_M_know : y_M_know.cls = R_M ∧ y_M_know.cls ≠ "java/lang/invoke/MethodHandle" ∧ y_M_know.cls ≠ "java/lang/invoke/VarHandle" ∧ (parseMethodDescriptor y_M_know.desc).map (fun d => d.parameters.length) = some 1 := by decide +kernel
theorem hd_M_makePositive : y_M_makePositive.cls = R_M ∧ y_M_makePositive.cls ≠ "java/lang/invoke/MethodHandle" ∧ y_M_makePositive.cls ≠ "java/lang/invoke/VarHandle" ∧ (parseMethodDescriptor y_M_makePositive.desc).map (fun d => d.parameters.length) = some 1 := by decide +kernel
theorem hd_M_writeSimple : y_M_writeSimple.cls = R_M ∧ y_M_writeSimple.cls ≠ "java/lang/invoke/MethodHandle" ∧ y_M_writeSimple.cls ≠ "java/lang/invoke/VarHandle" ∧ (parseMethodDescriptor y_M_writeSimple.desc).map (fun d => d.parameters.length) = some 1 := by decide +kernel
theorem hd_M_takeSimple : y_M_takeSimple.cls = R_M ∧ y_M_takeSimple.cls ≠ "java/lang/invoke/MethodHandle" ∧ y_M_takeSimple.cls ≠ "java/lang/invoke/VarHandle" ∧ (parseMethodDescriptor y_M_takeSimple.desc).map (fun d => d.parameters.length) = some 1 := by decide +kernel
theorem hd_M_clearChain : y_M_clearChain.cls = R_M ∧ y_M_clearChain.cls ≠ "java/lang/invoke/MethodHandle" ∧ y_M_clearChain.cls ≠ "java/lang/invoke/VarHandle" ∧ (parseMethodDescriptor y_M_clearChain.desc).map (fun d => d.parameters.length) = some 0 := by decide +kernel
theorem hd_M_writeTurn : y_M_writeTurn.cls = R_M ∧ y_M_writeTurn.cls ≠ "java/lang/invoke/MethodHandle" ∧ y_M_writeTurn.cls ≠ "java/lang/invoke/VarHandle" ∧ (parseMethodDescriptor y_M_writeTurn.desc).map (fun d => d.parameters.length) = some 1 := by decide +kernel
theorem hd_M_insert : y_M_insert.cls = R_M ∧ y_M_insert.cls ≠ "java/lang/invoke/MethodHandle" ∧ y_M_insert.cls ≠ "java/lang/invoke/VarHandle" ∧ (parseMethodDescriptor y_M_insert.desc).map (fun d => d.parameters.length) = some 2 := by decide +kernel
theorem hd_M_turnRight : y_M_turnRight.cls = R_M ∧ y_M_turnRight.cls ≠ "java/lang/invoke/MethodHandle" ∧ y_M_turnRight.cls ≠ "java/lang/invoke/VarHandle" ∧ (parseMethodDescriptor y_M_turnRight.desc).map (fun d => d.parameters.length) = some 0 := by decide +kernel
theorem hd_M_take : y_M_take.cls = R_M ∧ y_M_take.cls ≠ "java/lang/invoke/MethodHandle" ∧ y_M_take.cls ≠ "java/lang/invoke/VarHandle" ∧ (parseMethodDescriptor y_M_take.desc).map (fun d => d.parameters.length) = some 1 := by decide +kernel
theorem hd_M_isNear : y_M_isNear.cls = R_M ∧ y_M_isNear.cls ≠ "java/lang/invoke/MethodHandle" ∧ y_M_isNear.cls ≠ "java/lang/invoke/VarHandle" ∧ (parseMethodDescriptor y_M_isNear.desc).map (fun d => d.parameters.length) = some 2 := by decide +kernel
theorem hd_M_turnLeft : y_M_turnLeft.cls = R_M ∧ y_M_turnLeft.cls ≠ "java/lang/invoke/MethodHandle" ∧ y_M_turnLeft.cls ≠ "java/lang/invoke/VarHandle" ∧ (parseMethodDescriptor y_M_turnLeft.desc).map (fun d => d.parameters.length) = some 0 := by decide +kernel
theorem hd_M_form : y_M_form.cls = R_M ∧ y_M_form.cls ≠ "java/lang/invoke/MethodHandle" ∧ y_M_form.cls ≠ "java/lang/invoke/VarHandle" ∧ (parseMethodDescriptor y_M_form.desc).map (fun d => d.parameters.length) = some 3 := by decide +kernel
theorem hd_M_length : y_M_length.cls = R_M ∧ y_M_length.cls ≠ "java/lang/invoke/MethodHandle" ∧ y_M_length.cls ≠ "java/lang/invoke/VarHandle" ∧ (parseMethodDescriptor y_M_length.desc).map (fun d => d.parameters.length) = some 1 := by decide +kernel
theorem hd_M_crossing : y_M_crossing.cls = R_M ∧ y_M_crossing.cls ≠ "java/lang/invoke/MethodHandle" ∧ y_M_crossing.cls ≠ "java/lang/invoke/VarHandle" ∧ (parseMethodDescriptor y_M_crossing.desc).map (fun d => d.parameters.length) = some 3 := by decide +kernel
theorem hd_M_close : y_M_close.cls = R_M ∧ y_M_close.cls ≠ "java/lang/invoke/MethodHandle" ∧ y_M_close.cls ≠ "java/lang/invoke/VarHandle" ∧ (parseMethodDescriptor y_M_close.desc).map (fun d => d.parameters.length) = some 1 := by decide +kernel
theorem se_W_canPass : Cond.selects R_W y_W_canPass y_W_canPass ∈ G0 := by decide +kernel
theorem se_B_formOf : Cond.selects R_B y_B_formOf y_B_formOf ∈ G0 := by decide +kernel
theorem se_N_appendSimple : Cond.selects R_N y_N_appendSimple y_N_appendSimple ∈ G0 := by decide +kernel
theorem se_N_settle : Cond.selects R_N y_N_settle y_N_settle ∈ G0 := by decide +kernel
theorem se_N_moveOver : Cond.selects R_N y_N_moveOver y_N_moveOver ∈ G0 := by decide +kernel
theorem se_N_sweepOver : Cond.selects R_N y_N_sweepOver y_N_sweepOver ∈ G0 := by decide +kernel
theorem se_N_isTurn : Cond.selects R_N y_N_isTurn y_N_isTurn ∈ G0 := by decide +kernel
theorem se_N_isNone : Cond.selects R_N y_N_isNone y_N_isNone ∈ G0 := by decide +kernel
theorem se_W_labelAbove : Cond.selects R_W y_W_labelAbove y_W_labelAbove ∈ G0 := by decide +kernel
theorem se_W_madeLabel : Cond.selects R_W y_W_madeLabel y_W_madeLabel ∈ G0 := by decide +kernel
theorem se_W_labelBelow : Cond.selects R_W y_W_labelBelow y_W_labelBelow ∈ G0 := by decide +kernel
theorem se_M_letterAt : Cond.selects R_M y_M_letterAt y_M_letterAt ∈ G0 := by decide +kernel
theorem se_M_endOf : Cond.selects R_M y_M_endOf y_M_endOf ∈ G0 := by decide +kernel
theorem se_M_signs : Cond.selects R_M y_M_signs y_M_signs ∈ G0 := by decide +kernel
theorem se_M_rounds : Cond.selects R_M y_M_rounds y_M_rounds ∈ G0 := by decide +kernel
theorem se_M_untouched : Cond.selects R_M y_M_untouched y_M_untouched ∈ G0 := by decide +kernel
theorem se_M_remove : Cond.selects R_M y_M_remove y_M_remove ∈ G0 := by decide +kernel
theorem se_M_know : Cond.selects R_M y_M_know y_M_know ∈ G0 := by decide +kernel
theorem se_M_makePositive : Cond.selects R_M y_M_makePositive y_M_makePositive ∈ G0 := by decide +kernel
theorem se_M_writeSimple : Cond.selects R_M y_M_writeSimple y_M_writeSimple ∈ G0 := by decide +kernel
theorem se_M_takeSimple : Cond.selects R_M y_M_takeSimple y_M_takeSimple ∈ G0 := by decide +kernel
theorem se_M_clearChain : Cond.selects R_M y_M_clearChain y_M_clearChain ∈ G0 := by decide +kernel
theorem se_M_writeTurn : Cond.selects R_M y_M_writeTurn y_M_writeTurn ∈ G0 := by decide +kernel
theorem se_M_insert : Cond.selects R_M y_M_insert y_M_insert ∈ G0 := by decide +kernel
theorem se_M_turnRight : Cond.selects R_M y_M_turnRight y_M_turnRight ∈ G0 := by decide +kernel
theorem se_M_take : Cond.selects R_M y_M_take y_M_take ∈ G0 := by decide +kernel
theorem se_M_turnLeft : Cond.selects R_M y_M_turnLeft y_M_turnLeft ∈ G0 := by decide +kernel
theorem se_M_close : Cond.selects R_M y_M_close y_M_close ∈ G0 := by decide +kernel

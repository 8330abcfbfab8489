-- written by wip/gen/meths.py
theorem m_De_init : ax_prog[0]? = some (k_De_init, 2, 0, []) := rfl
theorem m_Ma_init : ax_prog[1]? = some (k_Ma_init, 1, 0, []) := rfl
theorem m_Pr_init : ax_prog[2]? = some (k_Pr_init, 1, 0, []) := rfl
theorem m_Di_init : ax_prog[3]? = some (k_Di_init, 1, 0, []) := rfl
theorem m_Wh_init : ax_prog[4]? = some (k_Wh_init, 1, 0, []) := rfl
theorem m_Wh_becomeJ : ax_prog[5]? = some (k_Wh_becomeJ, 6, 0, []) := rfl
theorem m_Wh_clear : ax_prog[6]? = some (k_Wh_clear, 1, 0, []) := rfl
theorem m_Wh_widen : ax_prog[7]? = some (k_Wh_widen, 2, 0, []) := rfl
theorem m_Ar_copyOf : ax_prog[8]? = some (k_Ar_copyOf, 3, 4, []) := rfl
theorem m_Mt_min : ax_prog[9]? = some (k_Mt_min, 2, 1, []) := rfl
theorem m_Ar_fillI : ax_prog[10]? = some (k_Ar_fillI, 5, 0, []) := rfl
theorem m_Ar_rangeCheck : ax_prog[11]? = some (k_Ar_rangeCheck, 3, 0, []) := rfl
theorem m_Mt_abs : ax_prog[12]? = some (k_Mt_abs, 2, 3, []) := rfl
theorem m_Wh_trim : ax_prog[13]? = some (k_Wh_trim, 2, 0, []) := rfl
theorem m_Mi_init : ax_prog[14]? = some (k_Mi_init, 3, 0, []) := rfl
theorem m_St_init : ax_prog[15]? = some (k_St_init, 3, 0, []) := rfl
theorem m_Ro_init : ax_prog[16]? = some (k_Ro_init, 2, 0, []) := rfl
theorem m_De_size : ax_prog[17]? = some (k_De_size, 3, 1, []) := rfl
theorem m_De_character : ax_prog[18]? = some (k_De_character, 2, 1, []) := rfl
theorem m_La_make : ax_prog[19]? = some (k_La_make, 5, 1, [(0, 7, 10, 9), (0, 7, 14, 10)]) := rfl
theorem m_De_make : ax_prog[20]? = some (k_De_make, 5, 0, []) := rfl
theorem m_De_matrix : ax_prog[21]? = some (k_De_matrix, 2, 4, []) := rfl
theorem m_Ma_reset : ax_prog[22]? = some (k_Ma_reset, 3, 0, []) := rfl
theorem m_Ar_fillJ : ax_prog[23]? = some (k_Ar_fillJ, 5, 0, []) := rfl
theorem m_La_put : ax_prog[24]? = some (k_La_put, 7, 1, [(0, 9, 12, 9), (0, 9, 16, 10)]) := rfl
theorem m_De_put : ax_prog[25]? = some (k_De_put, 7, 0, []) := rfl
theorem m_De_matrixWith : ax_prog[26]? = some (k_De_matrixWith, 5, 4, []) := rfl
theorem m_Ma_has : ax_prog[27]? = some (k_Ma_has, 3, 2, []) := rfl
theorem m_Ma_write : ax_prog[28]? = some (k_Ma_write, 5, 0, []) := rfl
theorem m_La_at : ax_prog[29]? = some (k_La_at, 6, 1, [(0, 11, 14, 9)]) := rfl
theorem m_De_at : ax_prog[30]? = some (k_De_at, 4, 3, []) := rfl
theorem m_Ma_number : ax_prog[31]? = some (k_Ma_number, 3, 3, []) := rfl
theorem m_La_combine : ax_prog[32]? = some (k_La_combine, 8, 1, [(0, 16, 19, 9)]) := rfl
theorem m_De_combine : ax_prog[33]? = some (k_De_combine, 11, 1, []) := rfl
theorem m_De_addToSum : ax_prog[34]? = some (k_De_addToSum, 5, 0, []) := rfl
theorem m_Wh_addProduct : ax_prog[35]? = some (k_Wh_addProduct, 9, 0, []) := rfl
theorem m_Mt_max : ax_prog[36]? = some (k_Mt_max, 2, 1, []) := rfl
theorem m_Wh_addLine : ax_prog[37]? = some (k_Wh_addLine, 14, 0, []) := rfl
theorem m_Wh_straighten : ax_prog[38]? = some (k_Wh_straighten, 7, 0, []) := rfl
theorem m_Wh_fits : ax_prog[39]? = some (k_Wh_fits, 1, 2, []) := rfl
theorem m_Wh_value : ax_prog[40]? = some (k_Wh_value, 3, 3, []) := rfl
theorem m_Ma_become : ax_prog[41]? = some (k_Ma_become, 2, 0, []) := rfl
theorem m_La_multiply : ax_prog[42]? = some (k_La_multiply, 6, 1, [(0, 12, 15, 9)]) := rfl
theorem m_De_multiply : ax_prog[43]? = some (k_De_multiply, 10, 1, []) := rfl
theorem m_La_turn : ax_prog[44]? = some (k_La_turn, 4, 1, [(0, 6, 9, 9)]) := rfl
theorem m_De_turn : ax_prog[45]? = some (k_De_turn, 7, 0, []) := rfl
theorem m_La_rank : ax_prog[46]? = some (k_La_rank, 4, 1, [(0, 9, 12, 9)]) := rfl
theorem m_De_rank : ax_prog[47]? = some (k_De_rank, 2, 1, []) := rfl
theorem m_Mi_read : ax_prog[48]? = some (k_Mi_read, 4, 0, []) := rfl
theorem m_Mi_independentRows : ax_prog[49]? = some (k_Mi_independentRows, 4, 1, []) := rfl
theorem m_De_all : ax_prog[50]? = some (k_De_all, 1, 1, []) := rfl
theorem m_Mi_takeRow : ax_prog[51]? = some (k_Mi_takeRow, 8, 0, []) := rfl
theorem m_In_bitCount : ax_prog[52]? = some (k_In_bitCount, 1, 1, []) := rfl
theorem m_Mi_hasMinor : ax_prog[53]? = some (k_Mi_hasMinor, 3, 2, []) := rfl
theorem m_Wh_isZero : ax_prog[54]? = some (k_Wh_isZero, 1, 2, []) := rfl
theorem m_La_hermite : ax_prog[55]? = some (k_La_hermite, 5, 1, [(0, 10, 13, 9)]) := rfl
theorem m_De_hermite : ax_prog[56]? = some (k_De_hermite, 6, 1, []) := rfl
theorem m_St_climb : ax_prog[57]? = some (k_St_climb, 7, 0, []) := rfl
theorem m_St_load : ax_prog[58]? = some (k_St_load, 7, 0, []) := rfl
theorem m_Ro_clear : ax_prog[59]? = some (k_Ro_clear, 2, 0, []) := rfl
theorem m_Ro_lead : ax_prog[60]? = some (k_Ro_lead, 3, 1, []) := rfl
theorem m_St_meet : ax_prog[61]? = some (k_St_meet, 5, 0, []) := rfl
theorem m_St_lower : ax_prog[62]? = some (k_St_lower, 5, 0, []) := rfl
theorem m_Di_divide : ax_prog[63]? = some (k_Di_divide, 5, 0, []) := rfl
theorem m_Wh_becomeW : ax_prog[64]? = some (k_Wh_becomeW, 2, 0, []) := rfl
theorem m_Wh_overDigit : ax_prog[65]? = some (k_Wh_overDigit, 6, 3, []) := rfl
theorem m_Wh_isSmallerThan : ax_prog[66]? = some (k_Wh_isSmallerThan, 3, 2, []) := rfl
theorem m_Di_divideLong : ax_prog[67]? = some (k_Di_divideLong, 11, 0, []) := rfl
theorem m_Wh_timesDigit : ax_prog[68]? = some (k_Wh_timesDigit, 6, 0, []) := rfl
theorem m_Di_guess : ax_prog[69]? = some (k_Di_guess, 14, 3, []) := rfl
theorem m_Wh_negate : ax_prog[70]? = some (k_Wh_negate, 1, 0, []) := rfl
theorem m_Wh_add : ax_prog[71]? = some (k_Wh_add, 4, 0, []) := rfl
theorem m_St_settle : ax_prog[72]? = some (k_St_settle, 4, 0, []) := rfl
theorem m_St_keepSpare : ax_prog[73]? = some (k_St_keepSpare, 5, 0, []) := rfl
theorem m_Ro_turnSigns : ax_prog[74]? = some (k_Ro_turnSigns, 2, 0, []) := rfl
theorem m_De_copyStairs : ax_prog[75]? = some (k_De_copyStairs, 6, 2, []) := rfl
theorem m_St_number : ax_prog[76]? = some (k_St_number, 3, 4, []) := rfl
theorem m_St_leadsBefore : ax_prog[77]? = some (k_St_leadsBefore, 4, 1, []) := rfl
theorem m_La_kernel : ax_prog[78]? = some (k_La_kernel, 5, 1, [(0, 10, 13, 9)]) := rfl
theorem m_De_kernel : ax_prog[79]? = some (k_De_kernel, 7, 1, []) := rfl
theorem m_La_solve : ax_prog[80]? = some (k_La_solve, 6, 1, [(0, 12, 15, 9)]) := rfl
theorem m_De_solve : ax_prog[81]? = some (k_De_solve, 10, 1, []) := rfl
theorem m_St_spareRow : ax_prog[82]? = some (k_St_spareRow, 1, 4, []) := rfl
theorem m_La_determinant : ax_prog[83]? = some (k_La_determinant, 4, 1, [(0, 9, 12, 9)]) := rfl
theorem m_De_determinant : ax_prog[84]? = some (k_De_determinant, 3, 1, []) := rfl
theorem m_Mi_minor : ax_prog[85]? = some (k_Mi_minor, 3, 4, []) := rfl
theorem m_Mi_takeRows : ax_prog[86]? = some (k_Mi_takeRows, 5, 0, []) := rfl
theorem m_De_printWhole : ax_prog[87]? = some (k_De_printWhole, 2, 1, []) := rfl
theorem m_Pr_clear : ax_prog[88]? = some (k_Pr_clear, 1, 0, []) := rfl
theorem m_Pr_whole : ax_prog[89]? = some (k_Pr_whole, 9, 0, []) := rfl
theorem m_Pr_letter : ax_prog[90]? = some (k_Pr_letter, 2, 0, []) := rfl
theorem m_La_divisor : ax_prog[91]? = some (k_La_divisor, 5, 1, [(0, 10, 13, 9)]) := rfl
theorem m_De_divisor : ax_prog[92]? = some (k_De_divisor, 4, 1, []) := rfl
theorem m_Ma_lesserSide : ax_prog[93]? = some (k_Ma_lesserSide, 1, 1, []) := rfl
theorem m_Mi_commonDivisor : ax_prog[94]? = some (k_Mi_commonDivisor, 6, 0, []) := rfl
theorem m_Di_commonDivisor : ax_prog[95]? = some (k_Di_commonDivisor, 7, 0, []) := rfl
theorem m_La_factor : ax_prog[96]? = some (k_La_factor, 5, 1, [(0, 10, 13, 9)]) := rfl
theorem m_De_factor : ax_prog[97]? = some (k_De_factor, 4, 1, []) := rfl
theorem m_La_inverse : ax_prog[98]? = some (k_La_inverse, 6, 1, [(0, 12, 15, 9)]) := rfl
theorem m_De_inverse : ax_prog[99]? = some (k_De_inverse, 6, 1, []) := rfl
theorem m_De_printFraction : ax_prog[100]? = some (k_De_printFraction, 2, 0, []) := rfl
theorem m_Di_lowerTerms : ax_prog[101]? = some (k_Di_lowerTerms, 3, 0, []) := rfl
theorem m_Di_lower : ax_prog[102]? = some (k_Di_lower, 2, 0, []) := rfl
theorem m_Wh_isOne : ax_prog[103]? = some (k_Wh_isOne, 1, 2, []) := rfl
theorem m_La_characteristic : ax_prog[104]? = some (k_La_characteristic, 5, 1, [(0, 10, 13, 9)]) := rfl
theorem m_De_characteristic : ax_prog[105]? = some (k_De_characteristic, 5, 1, []) := rfl
theorem m_Mi_principalSum : ax_prog[106]? = some (k_Mi_principalSum, 4, 0, []) := rfl
theorem m_La_same : ax_prog[107]? = some (k_La_same, 5, 1, [(0, 17, 20, 9)]) := rfl
theorem m_De_same : ax_prog[108]? = some (k_De_same, 7, 2, []) := rfl
theorem m_La_check : ax_prog[109]? = some (k_La_check, 4, 1, [(0, 9, 12, 9)]) := rfl
theorem m_De_check : ax_prog[110]? = some (k_De_check, 3, 1, []) := rfl
theorem m_St_isHermite : ax_prog[111]? = some (k_St_isHermite, 6, 2, []) := rfl
theorem m_St_isLead : ax_prog[112]? = some (k_St_isLead, 6, 2, []) := rfl
theorem m_De_stepsComeToForm : ax_prog[113]? = some (k_De_stepsComeToForm, 5, 2, []) := rfl
theorem m_De_stepsGoBack : ax_prog[114]? = some (k_De_stepsGoBack, 5, 2, []) := rfl
theorem m_De_stepsHaveUnitDeterminant : ax_prog[115]? = some (k_De_stepsHaveUnitDeterminant, 2, 2, []) := rfl
theorem m_Mi_readSquare : ax_prog[116]? = some (k_Mi_readSquare, 6, 0, []) := rfl
theorem m_Mo_init : ax_prog[117]? = some (k_Mo_init, 2, 0, []) := rfl
theorem m_Mo_thrown : ax_prog[118]? = some (k_Mo_thrown, 1, 1, []) := rfl
theorem m_Mo_make : ax_prog[119]? = some (k_Mo_make, 4, 0, []) := rfl
theorem m_Mo_isMatrix : ax_prog[120]? = some (k_Mo_isMatrix, 2, 2, []) := rfl
theorem m_Mo_clear : ax_prog[121]? = some (k_Mo_clear, 5, 0, []) := rfl
theorem m_Mo_put : ax_prog[122]? = some (k_Mo_put, 6, 0, []) := rfl
theorem m_Mo_isPlace : ax_prog[123]? = some (k_Mo_isPlace, 4, 2, []) := rfl
theorem m_Mo_at : ax_prog[124]? = some (k_Mo_at, 4, 3, []) := rfl
theorem m_Mo_number : ax_prog[125]? = some (k_Mo_number, 4, 3, []) := rfl
theorem m_Mo_size : ax_prog[126]? = some (k_Mo_size, 3, 1, []) := rfl
theorem m_Mo_combine : ax_prog[127]? = some (k_Mo_combine, 8, 1, []) := rfl
theorem m_Mo_areThere : ax_prog[128]? = some (k_Mo_areThere, 4, 2, []) := rfl
theorem m_Mo_result : ax_prog[129]? = some (k_Mo_result, 3, 1, []) := rfl
theorem m_Mo_bigSet : ax_prog[130]? = some (k_Mo_bigSet, 7, 0, []) := rfl
theorem m_Mo_addTimes : ax_prog[131]? = some (k_Mo_addTimes, 6, 0, []) := rfl
theorem m_Mo_bigProduct : ax_prog[132]? = some (k_Mo_bigProduct, 9, 0, []) := rfl
theorem m_Mo_bigTrim : ax_prog[133]? = some (k_Mo_bigTrim, 2, 0, []) := rfl
theorem m_Mo_bigAdd : ax_prog[134]? = some (k_Mo_bigAdd, 5, 0, []) := rfl
theorem m_Mo_bigMore : ax_prog[135]? = some (k_Mo_bigMore, 7, 0, []) := rfl
theorem m_Mo_bigAt : ax_prog[136]? = some (k_Mo_bigAt, 3, 1, []) := rfl
theorem m_Mo_bigSizes : ax_prog[137]? = some (k_Mo_bigSizes, 4, 1, []) := rfl
theorem m_Mo_bigDiffer : ax_prog[138]? = some (k_Mo_bigDiffer, 8, 0, []) := rfl
theorem m_Mo_give : ax_prog[139]? = some (k_Mo_give, 6, 2, []) := rfl
theorem m_Mo_bigValue : ax_prog[140]? = some (k_Mo_bigValue, 5, 3, []) := rfl
theorem m_Mo_multiply : ax_prog[141]? = some (k_Mo_multiply, 7, 1, []) := rfl
theorem m_Mo_turn : ax_prog[142]? = some (k_Mo_turn, 5, 0, []) := rfl
theorem m_Mo_rank : ax_prog[143]? = some (k_Mo_rank, 2, 1, []) := rfl
theorem m_Mo_lookAt : ax_prog[144]? = some (k_Mo_lookAt, 4, 0, []) := rfl
theorem m_Mo_rankOf : ax_prog[145]? = some (k_Mo_rankOf, 2, 1, []) := rfl
theorem m_Mo_least : ax_prog[146]? = some (k_Mo_least, 3, 1, []) := rfl
theorem m_Mo_divisorOf : ax_prog[147]? = some (k_Mo_divisorOf, 6, 2, []) := rfl
theorem m_Mo_sizeOf : ax_prog[148]? = some (k_Mo_sizeOf, 3, 1, []) := rfl
theorem m_Mo_pick : ax_prog[149]? = some (k_Mo_pick, 4, 1, []) := rfl
theorem m_Mo_findMinors : ax_prog[150]? = some (k_Mo_findMinors, 6, 0, []) := rfl
theorem m_Mo_bigIsZero : ax_prog[151]? = some (k_Mo_bigIsZero, 2, 2, []) := rfl
theorem m_Mo_divide : ax_prog[152]? = some (k_Mo_divide, 3, 0, []) := rfl
theorem m_Mo_bigCopy : ax_prog[153]? = some (k_Mo_bigCopy, 4, 0, []) := rfl
theorem m_Mo_bigDivide : ax_prog[154]? = some (k_Mo_bigDivide, 14, 0, []) := rfl
theorem m_Mo_bigHolds : ax_prog[155]? = some (k_Mo_bigHolds, 5, 2, []) := rfl
theorem m_Mo_bigLose : ax_prog[156]? = some (k_Mo_bigLose, 13, 0, []) := rfl
theorem m_Mo_hermite : ax_prog[157]? = some (k_Mo_hermite, 5, 1, []) := rfl
theorem m_Mo_findForm : ax_prog[158]? = some (k_Mo_findForm, 2, 0, []) := rfl
theorem m_Mo_findLeads : ax_prog[159]? = some (k_Mo_findLeads, 3, 0, []) := rfl
theorem m_Mo_bring : ax_prog[160]? = some (k_Mo_bring, 4, 0, []) := rfl
theorem m_Mo_cell : ax_prog[161]? = some (k_Mo_cell, 3, 1, []) := rfl
theorem m_Mo_remain : ax_prog[162]? = some (k_Mo_remain, 3, 0, []) := rfl
theorem m_Mo_gather : ax_prog[163]? = some (k_Mo_gather, 6, 1, []) := rfl
theorem m_Mo_lose : ax_prog[164]? = some (k_Mo_lose, 5, 0, []) := rfl
theorem m_Mo_shorten : ax_prog[165]? = some (k_Mo_shorten, 4, 0, []) := rfl
theorem m_Mo_floor : ax_prog[166]? = some (k_Mo_floor, 5, 0, []) := rfl
theorem m_Mo_fill : ax_prog[167]? = some (k_Mo_fill, 5, 0, []) := rfl
theorem m_Mo_kernel : ax_prog[168]? = some (k_Mo_kernel, 7, 1, []) := rfl
theorem m_Mo_lookBeside : ax_prog[169]? = some (k_Mo_lookBeside, 4, 0, []) := rfl
theorem m_Mo_kernelFrom : ax_prog[170]? = some (k_Mo_kernelFrom, 3, 1, []) := rfl
theorem m_Mo_solve : ax_prog[171]? = some (k_Mo_solve, 7, 1, []) := rfl
theorem m_Mo_determinant : ax_prog[172]? = some (k_Mo_determinant, 2, 1, []) := rfl
theorem m_Mo_say : ax_prog[173]? = some (k_Mo_say, 2, 1, []) := rfl
theorem m_Mo_bigSign : ax_prog[174]? = some (k_Mo_bigSign, 2, 1, []) := rfl
theorem m_Mo_sayMore : ax_prog[175]? = some (k_Mo_sayMore, 4, 0, []) := rfl
theorem m_Mo_bigTenth : ax_prog[176]? = some (k_Mo_bigTenth, 5, 1, []) := rfl
theorem m_Mo_divisor : ax_prog[177]? = some (k_Mo_divisor, 4, 1, []) := rfl
theorem m_Mo_factor : ax_prog[178]? = some (k_Mo_factor, 4, 1, []) := rfl
theorem m_Mo_inverse : ax_prog[179]? = some (k_Mo_inverse, 8, 1, []) := rfl
theorem m_Mo_bigIsOne : ax_prog[180]? = some (k_Mo_bigIsOne, 2, 2, []) := rfl
theorem m_Mo_characteristic : ax_prog[181]? = some (k_Mo_characteristic, 6, 1, []) := rfl
theorem m_Mo_character : ax_prog[182]? = some (k_Mo_character, 2, 1, []) := rfl
theorem m_Mo_same : ax_prog[183]? = some (k_Mo_same, 6, 2, []) := rfl
theorem m_Mo_check : ax_prog[184]? = some (k_Mo_check, 2, 1, []) := rfl
theorem m_La_law : ax_prog[185]? = some (k_La_law, 8, 2, []) := rfl

set_option maxRecDepth 20000 in
theorem gX10_clashesAmong_X10_isIn : GoodIn wsX10_clashesAmong (va_wsS RX10 184 yX10_isIn wsX10_isIn) := goodIn_app (goodIn_of _ (by decide +kernel)) ggX10_clashesAmong_X10_isIn
set_option maxRecDepth 20000 in
theorem ggX10_clashesAmong_X10_clashesOfTwo : GoodIn wsX10_clashesAmong wsX10_clashesOfTwo := goodIn_r _ [9, 10, 11, 12, 4, 13, 14, 15, 16, 17, 18, 19, 20, 21, 22, 23, 24, 25, 26, 27, 28, 29, 30, 31, 32, 33, 34, 35, 36, 37, 38, 39, 40, 41, 42, 43, 44, 45, 46, 47, 48, 49, 50, 51, 52, 53, 54, 55, 56, 57, 58, 59, 60, 61, 62, 63, 64, 65, 66, 67] (by decide +kernel) (by decide +kernel)
set_option maxRecDepth 20000 in
theorem gX10_clashesAmong_X10_clashesOfTwo : GoodIn wsX10_clashesAmong (wsV RX10 181 RX10 yX10_clashesOfTwo wsX10_clashesOfTwo) := goodIn_app (goodIn_of _ (by decide +kernel)) ggX10_clashesAmong_X10_clashesOfTwo
set_option maxRecDepth 20000 in
theorem ggX10_saidBy_X10_isIn : GoodIn wsX10_saidBy wsX10_isIn := goodIn_r _ [5] (by decide +kernel) (by decide +kernel)
set_option maxRecDepth 20000 in
theorem gX10_saidBy_X10_isIn : GoodIn wsX10_saidBy (va_wsS RX10 184 yX10_isIn wsX10_isIn) := goodIn_app (goodIn_of _ (by decide +kernel)) ggX10_saidBy_X10_isIn
set_option maxRecDepth 20000 in
theorem ggX10_saidBy_X10_tellsNow : GoodIn wsX10_saidBy wsX10_tellsNow := goodIn_r _ [9, 10, 11, 12, 13, 14, 15, 16, 17, 18, 19, 20, 21, 22, 23, 24, 25, 26, 27, 28, 29, 30, 31, 32, 33, 34, 35, 36, 37, 38, 39, 40, 41, 42, 43, 44, 45, 46, 47, 48, 49, 50, 51, 52, 53, 54, 55, 56, 57, 58, 59] (by decide +kernel) (by decide +kernel)
set_option maxRecDepth 20000 in
theorem gX10_saidBy_X10_tellsNow : GoodIn wsX10_saidBy (wsV RX10 175 RX10 yX10_tellsNow wsX10_tellsNow) := goodIn_app (goodIn_of _ (by decide +kernel)) ggX10_saidBy_X10_tellsNow
set_option maxRecDepth 20000 in
theorem ggX10_witnessNow_X10_sortsOf : GoodIn wsX10_witnessNow wsX10_sortsOf := goodIn_r _ [8, 9, 10, 11, 12, 13, 14, 7, 15, 44, 45, 46, 47, 48, 49, 50, 51, 52, 53, 54, 55, 56, 57, 58, 59, 60, 61, 62, 63, 64, 65, 66, 67, 68, 69, 70, 71, 72, 73, 74, 75, 76, 77, 78, 79, 80, 81, 82, 83, 84, 85, 86, 87, 88, 89, 90, 91] (by decide +kernel) (by decide +kernel)
set_option maxRecDepth 20000 in
theorem gX10_witnessNow_X10_sortsOf : GoodIn wsX10_witnessNow (wsV RX10 187 RX10 yX10_sortsOf wsX10_sortsOf) := goodIn_app (goodIn_of _ (by decide +kernel)) ggX10_witnessNow_X10_sortsOf
set_option maxRecDepth 20000 in
theorem ggX10_witnessNow_X10_askOf : GoodIn wsX10_witnessNow wsX10_askOf := goodIn_r _ [19, 20, 4, 5, 6, 7, 8, 9, 10, 11, 12, 13, 14, 15, 21, 22, 23, 24, 25, 26, 44, 45, 46, 47, 48, 49, 50, 51, 52, 53, 54, 55, 56, 57, 58, 59, 60, 61, 62, 63, 64, 65, 66, 67, 68, 69, 70, 71, 72, 73, 74, 75, 76, 77, 78, 79, 80, 81, 82, 83, 84, 85, 86, 87, 88, 89, 90, 91] (by decide +kernel) (by decide +kernel)
set_option maxRecDepth 20000 in
theorem gX10_witnessNow_X10_askOf : GoodIn wsX10_witnessNow (wsV RX10 190 RX10 yX10_askOf wsX10_askOf) := goodIn_app (goodIn_of _ (by decide +kernel)) ggX10_witnessNow_X10_askOf
set_option maxRecDepth 20000 in
theorem ggX10_witnessNow_X10_clashesOf : GoodIn wsX10_witnessNow wsX10_clashesOf := goodIn_r _ [30, 31, 32, 33, 34, 7, 35, 36, 37, 38, 39, 40, 41, 42, 43, 2, 3, 44, 45, 46, 47, 48, 49, 50, 51, 52, 53, 54, 55, 56, 57, 58, 59, 60, 61, 62, 63, 64, 65, 66, 67, 68, 69, 70, 71, 72, 73, 74, 75, 76, 77, 78, 79, 80, 81, 82, 83, 84, 85, 86, 87, 88, 89, 90, 91] (by decide +kernel) (by decide +kernel)
set_option maxRecDepth 20000 in
theorem gX10_witnessNow_X10_clashesOf : GoodIn wsX10_witnessNow (wsV RX10 193 RX10 yX10_clashesOf wsX10_clashesOf) := goodIn_app (goodIn_of _ (by decide +kernel)) ggX10_witnessNow_X10_clashesOf
set_option maxRecDepth 20000 in
theorem ggX10_witness_X10_isWitness : GoodIn wsX10_witness wsX10_isWitness := goodIn_r _ [5, 6, 7, 8, 4, 9, 55, 56, 57, 58, 59, 60, 61, 62, 63, 64, 65, 66, 67, 68, 69, 70, 71, 72, 73, 74, 75, 76, 77, 78, 79, 80, 81, 82, 83, 84, 85, 86, 87, 88, 89, 90, 91, 92, 93, 94, 95, 96, 97, 98, 99, 100, 101, 102] (by decide +kernel) (by decide +kernel)
set_option maxRecDepth 20000 in
theorem gX10_witness_X10_isWitness : GoodIn wsX10_witness (wsV RX10 196 RX10 yX10_isWitness wsX10_isWitness) := goodIn_app (goodIn_of _ (by decide +kernel)) ggX10_witness_X10_isWitness
set_option maxRecDepth 20000 in
theorem ggX10_witness_X10_within : GoodIn wsX10_witness wsX10_within := goodIn_r _ [9] (by decide +kernel) (by decide +kernel)
set_option maxRecDepth 20000 in
theorem gX10_witness_X10_within : GoodIn wsX10_witness (va_wsS RX10 101 yX10_within wsX10_within) := goodIn_app (goodIn_of _ (by decide +kernel)) ggX10_witness_X10_within
set_option maxRecDepth 20000 in
theorem ggX10_witness_X10_witnessNow : GoodIn wsX10_witness wsX10_witnessNow := goodIn_r _ [13, 14, 15, 16, 17, 18, 19, 4, 20, 21, 22, 23, 24, 25, 26, 27, 28, 29, 30, 31, 32, 33, 34, 35, 36, 37, 38, 39, 40, 41, 42, 6, 43, 44, 45, 46, 47, 48, 49, 50, 51, 52, 53, 54, 55, 56, 57, 58, 59, 60, 61, 62, 63, 64, 65, 66, 67, 68, 69, 70, 71, 72, 73, 74, 75, 76, 77, 78, 79, 80, 81, 82, 83, 84, 85, 86, 87, 88, 89, 90, 91, 92, 93, 94, 95, 96, 97, 98, 99, 100, 101, 102] (by decide +kernel) (by decide +kernel)
set_option maxRecDepth 20000 in
theorem gX10_witness_X10_witnessNow : GoodIn wsX10_witness (wsV RX10 199 RX10 yX10_witnessNow wsX10_witnessNow) := goodIn_app (goodIn_of _ (by decide +kernel)) ggX10_witness_X10_witnessNow
set_option maxRecDepth 20000 in
theorem ggX10_as_X10_isWitness : GoodIn wsX10_as wsX10_isWitness := goodIn_r _ [6, 7, 8, 9, 5, 10, 11, 12, 13, 14, 15, 16, 17, 18, 19, 20, 21, 22, 23, 24, 25, 26, 27, 28, 29, 30, 31, 32, 33, 34, 35, 36, 37, 38, 39, 40, 41, 42, 43, 44, 45, 46, 47, 48, 49, 50, 51, 52, 53, 54, 55, 56, 57, 58] (by decide +kernel) (by decide +kernel)
set_option maxRecDepth 20000 in
theorem gX10_as_X10_isWitness : GoodIn wsX10_as (wsV RX10 196 RX10 yX10_isWitness wsX10_isWitness) := goodIn_app (goodIn_of _ (by decide +kernel)) ggX10_as_X10_isWitness
set_option maxRecDepth 20000 in
theorem ggX10_as_X10_within : GoodIn wsX10_as wsX10_within := goodIn_r _ [10] (by decide +kernel) (by decide +kernel)
set_option maxRecDepth 20000 in
theorem gX10_as_X10_within : GoodIn wsX10_as (va_wsS RX10 101 yX10_within wsX10_within) := goodIn_app (goodIn_of _ (by decide +kernel)) ggX10_as_X10_within
set_option maxRecDepth 20000 in
theorem ggX10_tells_X10_isWitness : GoodIn wsX10_tells wsX10_isWitness := goodIn_r _ [5, 6, 7, 8, 4, 9, 16, 17, 18, 19, 20, 21, 22, 23, 24, 25, 26, 27, 28, 29, 30, 31, 32, 33, 34, 35, 36, 37, 38, 39, 40, 41, 42, 43, 44, 45, 46, 47, 48, 49, 50, 51, 52, 53, 54, 55, 56, 57, 58, 59, 60, 61, 62, 63] (by decide +kernel) (by decide +kernel)
set_option maxRecDepth 20000 in
theorem gX10_tells_X10_isWitness : GoodIn wsX10_tells (wsV RX10 196 RX10 yX10_isWitness wsX10_isWitness) := goodIn_app (goodIn_of _ (by decide +kernel)) ggX10_tells_X10_isWitness
set_option maxRecDepth 20000 in
theorem ggX10_tells_X10_within : GoodIn wsX10_tells wsX10_within := goodIn_r _ [9] (by decide +kernel) (by decide +kernel)
set_option maxRecDepth 20000 in
theorem gX10_tells_X10_within : GoodIn wsX10_tells (va_wsS RX10 101 yX10_within wsX10_within) := goodIn_app (goodIn_of _ (by decide +kernel)) ggX10_tells_X10_within
set_option maxRecDepth 20000 in
theorem ggX10_tells_X10_tellsNow : GoodIn wsX10_tells wsX10_tellsNow := goodIn_r _ [13, 14, 15, 16, 17, 18, 19, 20, 21, 22, 23, 24, 25, 26, 27, 28, 29, 30, 31, 32, 33, 34, 35, 36, 37, 38, 39, 40, 41, 42, 43, 44, 45, 46, 47, 48, 49, 50, 51, 52, 53, 54, 55, 56, 57, 58, 59, 60, 61, 62, 63] (by decide +kernel) (by decide +kernel)
set_option maxRecDepth 20000 in
theorem gX10_tells_X10_tellsNow : GoodIn wsX10_tells (wsV RX10 175 RX10 yX10_tellsNow wsX10_tellsNow) := goodIn_app (goodIn_of _ (by decide +kernel)) ggX10_tells_X10_tellsNow
set_option maxRecDepth 20000 in
theorem ggX10_said_X10_within : GoodIn wsX10_said wsX10_within := goodIn_r _ [5] (by decide +kernel) (by decide +kernel)
set_option maxRecDepth 20000 in
theorem gX10_said_X10_within : GoodIn wsX10_said (va_wsS RX10 101 yX10_within wsX10_within) := goodIn_app (goodIn_of _ (by decide +kernel)) ggX10_said_X10_within
set_option maxRecDepth 20000 in
theorem ggX10_said_X10_everybody : GoodIn wsX10_said wsX10_everybody := goodIn_r _ [9, 10, 24, 25, 26, 27, 28, 29, 30, 31, 32, 33, 34, 35, 36, 37, 38, 39, 40, 41, 42, 43, 44, 45, 46, 47, 48, 49, 50, 51, 52, 53, 54, 55, 56, 57, 58, 59, 60, 61, 62, 63, 64, 65, 66, 67, 68, 69, 70, 71] (by decide +kernel) (by decide +kernel)
set_option maxRecDepth 20000 in
theorem gX10_said_X10_everybody : GoodIn wsX10_said (wsV RX10 202 RX10 yX10_everybody wsX10_everybody) := goodIn_app (goodIn_of _ (by decide +kernel)) ggX10_said_X10_everybody
set_option maxRecDepth 20000 in
theorem ggX10_said_X10_saidBy : GoodIn wsX10_said wsX10_saidBy := goodIn_r _ [14, 10, 15, 16, 4, 17, 18, 19, 20, 21, 22, 23, 24, 25, 26, 27, 28, 29, 30, 31, 32, 33, 34, 35, 36, 37, 38, 39, 40, 41, 42, 43, 44, 45, 46, 47, 48, 49, 50, 51, 52, 53, 54, 55, 56, 57, 58, 59, 60, 61, 62, 63, 64, 65, 66, 67, 68, 69, 70, 71] (by decide +kernel) (by decide +kernel)
set_option maxRecDepth 20000 in
theorem gX10_said_X10_saidBy : GoodIn wsX10_said (wsV RX10 205 RX10 yX10_saidBy wsX10_saidBy) := goodIn_app (goodIn_of _ (by decide +kernel)) ggX10_said_X10_saidBy
set_option maxRecDepth 20000 in
theorem ggX10_having_X10_isSight : GoodIn wsX10_having wsX10_isSight := goodIn_r _ [6, 7, 8, 5, 9] (by decide +kernel) (by decide +kernel)
set_option maxRecDepth 20000 in
theorem gX10_having_X10_isSight : GoodIn wsX10_having (va_wsS RX10 208 yX10_isSight wsX10_isSight) := goodIn_app (goodIn_of _ (by decide +kernel)) ggX10_having_X10_isSight
set_option maxRecDepth 20000 in
theorem ggX10_having_X10_has : GoodIn wsX10_having wsX10_has := goodIn_r _ [13, 14, 15, 16, 17, 18, 19, 20, 21, 22, 23, 24, 25, 26, 27, 28, 29, 30, 31, 32, 33, 34, 35, 36, 37, 38, 39, 40, 41, 42, 43, 44, 45, 46, 47, 48, 49, 50, 51, 52, 53, 54, 55, 56, 57, 58, 59, 60, 61, 62, 63] (by decide +kernel) (by decide +kernel)
set_option maxRecDepth 20000 in
theorem gX10_having_X10_has : GoodIn wsX10_having (wsV RX10 211 RX10 yX10_has wsX10_has) := goodIn_app (goodIn_of _ (by decide +kernel)) ggX10_having_X10_has
set_option maxRecDepth 20000 in
theorem ggX10_showNow_X10_hasThing : GoodIn wsX10_showNow wsX10_hasThing := goodIn_r _ [8, 9, 10, 11, 7, 12, 2, 3, 19, 20, 21, 22, 23, 24, 25, 26, 27, 28, 29, 30, 31, 32, 33, 34, 35, 36, 37, 38, 39, 40, 41, 42, 43, 44, 45, 46, 47, 48, 49, 50, 51, 52, 53, 54, 55, 56, 57, 58, 59, 60, 61, 62, 63, 64, 65, 66] (by decide +kernel) (by decide +kernel)
set_option maxRecDepth 20000 in
theorem gX10_showNow_X10_hasThing : GoodIn wsX10_showNow (wsV RX10 178 RX10 yX10_hasThing wsX10_hasThing) := goodIn_app (goodIn_of _ (by decide +kernel)) ggX10_showNow_X10_hasThing
set_option maxRecDepth 20000 in
theorem ggX10_showNow_X10_takes : GoodIn wsX10_showNow wsX10_takes := goodIn_r _ [15] (by decide +kernel) (by decide +kernel)
set_option maxRecDepth 20000 in
theorem gX10_showNow_X10_takes : GoodIn wsX10_showNow (va_wsS RX10 214 yX10_takes wsX10_takes) := goodIn_app (goodIn_of _ (by decide +kernel)) ggX10_showNow_X10_takes
set_option maxRecDepth 20000 in
theorem ggX10_showNow_X10_goes : GoodIn wsX10_showNow wsX10_goes := goodIn_r _ [18] (by decide +kernel) (by decide +kernel)
set_option maxRecDepth 20000 in
theorem gX10_showNow_X10_goes : GoodIn wsX10_showNow (va_wsS RX10 218 yX10_goes wsX10_goes) := goodIn_app (goodIn_of _ (by decide +kernel)) ggX10_showNow_X10_goes
set_option maxRecDepth 20000 in
theorem ggX10_show_X10_isWitness : GoodIn wsX10_show wsX10_isWitness := goodIn_r _ [6, 7, 8, 9, 5, 10, 35, 36, 37, 38, 39, 40, 41, 42, 43, 44, 45, 46, 47, 48, 49, 50, 51, 52, 53, 54, 55, 56, 57, 58, 59, 60, 61, 62, 63, 64, 65, 66, 67, 68, 69, 70, 71, 72, 73, 74, 75, 76, 77, 78, 79, 80, 81, 82] (by decide +kernel) (by decide +kernel)
set_option maxRecDepth 20000 in
theorem gX10_show_X10_isWitness : GoodIn wsX10_show (wsV RX10 196 RX10 yX10_isWitness wsX10_isWitness) := goodIn_app (goodIn_of _ (by decide +kernel)) ggX10_show_X10_isWitness
set_option maxRecDepth 20000 in
theorem ggX10_show_X10_isSight : GoodIn wsX10_show wsX10_isSight := goodIn_r _ [13, 8, 9, 5, 10] (by decide +kernel) (by decide +kernel)
set_option maxRecDepth 20000 in
theorem gX10_show_X10_isSight : GoodIn wsX10_show (va_wsS RX10 208 yX10_isSight wsX10_isSight) := goodIn_app (goodIn_of _ (by decide +kernel)) ggX10_show_X10_isSight
set_option maxRecDepth 20000 in
theorem ggX10_show_X10_showNow : GoodIn wsX10_show wsX10_showNow := goodIn_r _ [17, 18, 19, 20, 21, 22, 23, 5, 24, 25, 26, 27, 28, 29, 30, 31, 32, 33, 34, 35, 36, 37, 38, 39, 40, 41, 42, 43, 44, 45, 46, 47, 48, 49, 50, 51, 52, 53, 54, 55, 56, 57, 58, 59, 60, 61, 62, 63, 64, 65, 66, 67, 68, 69, 70, 71, 72, 73, 74, 75, 76, 77, 78, 79, 80, 81, 82] (by decide +kernel) (by decide +kernel)
set_option maxRecDepth 20000 in
theorem gX10_show_X10_showNow : GoodIn wsX10_show (wsV RX10 221 RX10 yX10_showNow wsX10_showNow) := goodIn_app (goodIn_of _ (by decide +kernel)) ggX10_show_X10_showNow
set_option maxRecDepth 20000 in
theorem ggX10_be_X10_isWitness : GoodIn wsX10_be wsX10_isWitness := goodIn_r _ [6, 7, 8, 9, 5, 10, 11, 12, 13, 14, 15, 16, 17, 18, 19, 20, 21, 22, 23, 24, 25, 26, 27, 28, 29, 30, 31, 32, 33, 34, 35, 36, 37, 38, 39, 40, 41, 42, 43, 44, 45, 46, 47, 48, 49, 50, 51, 52, 53, 54, 55, 56, 57, 58] (by decide +kernel) (by decide +kernel)
set_option maxRecDepth 20000 in
theorem gX10_be_X10_isWitness : GoodIn wsX10_be (wsV RX10 196 RX10 yX10_isWitness wsX10_isWitness) := goodIn_app (goodIn_of _ (by decide +kernel)) ggX10_be_X10_isWitness
set_option maxRecDepth 20000 in
theorem ggX10_be_X10_within : GoodIn wsX10_be wsX10_within := goodIn_r _ [10] (by decide +kernel) (by decide +kernel)
set_option maxRecDepth 20000 in
theorem gX10_be_X10_within : GoodIn wsX10_be (va_wsS RX10 101 yX10_within wsX10_within) := goodIn_app (goodIn_of _ (by decide +kernel)) ggX10_be_X10_within
set_option maxRecDepth 20000 in
theorem ggX10_slip_X10_within : GoodIn wsX10_slip wsX10_within := goodIn_r _ [8] (by decide +kernel) (by decide +kernel)
set_option maxRecDepth 20000 in
theorem gX10_slip_X10_within : GoodIn wsX10_slip (va_wsS RX10 101 yX10_within wsX10_within) := goodIn_app (goodIn_of _ (by decide +kernel)) ggX10_slip_X10_within
set_option maxRecDepth 20000 in
theorem ggX10_slip_X10_isWitness : GoodIn wsX10_slip wsX10_isWitness := goodIn_r _ [12, 13, 5, 6, 7, 8, 17, 18, 19, 20, 21, 22, 23, 24, 25, 26, 27, 28, 29, 30, 31, 32, 33, 34, 35, 36, 37, 38, 39, 40, 41, 42, 43, 44, 45, 46, 47, 48, 49, 50, 51, 52, 53, 54, 55, 56, 57, 58, 59, 60, 61, 62, 63, 64] (by decide +kernel) (by decide +kernel)
set_option maxRecDepth 20000 in
theorem gX10_slip_X10_isWitness : GoodIn wsX10_slip (wsV RX10 196 RX10 yX10_isWitness wsX10_isWitness) := goodIn_app (goodIn_of _ (by decide +kernel)) ggX10_slip_X10_isWitness
set_option maxRecDepth 20000 in
theorem ggX10_slip_X10_isSight : GoodIn wsX10_slip wsX10_isSight := goodIn_r _ [16, 5, 6, 7, 8] (by decide +kernel) (by decide +kernel)
set_option maxRecDepth 20000 in
theorem gX10_slip_X10_isSight : GoodIn wsX10_slip (va_wsS RX10 208 yX10_isSight wsX10_isSight) := goodIn_app (goodIn_of _ (by decide +kernel)) ggX10_slip_X10_isSight
set_option maxRecDepth 20000 in
theorem ggX10_layTerm_X10_lay : GoodIn wsX10_layTerm wsX10_lay := goodIn_r _ [13, 14, 15, 16, 17, 53, 54, 55, 56, 57, 58, 59, 60, 61, 62, 63, 64, 65, 66, 67, 68, 69, 70, 71, 72, 73, 74, 75, 76, 77, 78, 79, 80, 81, 82, 83, 84, 85, 86, 87, 88, 89, 90, 91, 92, 93, 94, 95, 96, 97, 98, 99, 100] (by decide +kernel) (by decide +kernel)
set_option maxRecDepth 20000 in
theorem gX10_layTerm_X10_lay : GoodIn wsX10_layTerm (wsV RX10 224 RX10 yX10_lay wsX10_lay) := goodIn_app (goodIn_of _ (by decide +kernel)) ggX10_layTerm_X10_lay
set_option maxRecDepth 20000 in
theorem ggX10_layTerm_X10_everybody : GoodIn wsX10_layTerm wsX10_everybody := goodIn_r _ [21, 22, 53, 54, 55, 56, 57, 58, 59, 60, 61, 62, 63, 64, 65, 66, 67, 68, 69, 70, 71, 72, 73, 74, 75, 76, 77, 78, 79, 80, 81, 82, 83, 84, 85, 86, 87, 88, 89, 90, 91, 92, 93, 94, 95, 96, 97, 98, 99, 100] (by decide +kernel) (by decide +kernel)
set_option maxRecDepth 20000 in
theorem gX10_layTerm_X10_everybody : GoodIn wsX10_layTerm (wsV RX10 202 RX10 yX10_everybody wsX10_everybody) := goodIn_app (goodIn_of _ (by decide +kernel)) ggX10_layTerm_X10_everybody
set_option maxRecDepth 20000 in
theorem ggX10_layTerm_X10_saidBy : GoodIn wsX10_layTerm wsX10_saidBy := goodIn_r _ [26, 22, 27, 28, 12, 29, 30, 31, 32, 33, 17, 15, 53, 54, 55, 56, 57, 58, 59, 60, 61, 62, 63, 64, 65, 66, 67, 68, 69, 70, 71, 72, 73, 74, 75, 76, 77, 78, 79, 80, 81, 82, 83, 84, 85, 86, 87, 88, 89, 90, 91, 92, 93, 94, 95, 96, 97, 98, 99, 100] (by decide +kernel) (by decide +kernel)
set_option maxRecDepth 20000 in
theorem gX10_layTerm_X10_saidBy : GoodIn wsX10_layTerm (wsV RX10 205 RX10 yX10_saidBy wsX10_saidBy) := goodIn_app (goodIn_of _ (by decide +kernel)) ggX10_layTerm_X10_saidBy
set_option maxRecDepth 20000 in
theorem ggX10_layTerm_X10_showNow : GoodIn wsX10_layTerm wsX10_showNow := goodIn_r _ [37, 38, 17, 15, 39, 40, 41, 12, 42, 30, 31, 32, 33, 43, 44, 45, 46, 47, 48, 53, 54, 55, 56, 57, 58, 59, 60, 61, 62, 63, 64, 65, 66, 67, 68, 69, 70, 71, 72, 73, 74, 75, 76, 77, 78, 79, 80, 81, 82, 83, 84, 85, 86, 87, 88, 89, 90, 91, 92, 93, 94, 95, 96, 97, 98, 99, 100] (by decide +kernel) (by decide +kernel)
set_option maxRecDepth 20000 in
theorem gX10_layTerm_X10_showNow : GoodIn wsX10_layTerm (wsV RX10 221 RX10 yX10_showNow wsX10_showNow) := goodIn_app (goodIn_of _ (by decide +kernel)) ggX10_layTerm_X10_showNow
set_option maxRecDepth 20000 in
theorem ggX10_layTerm_X10_layBack : GoodIn wsX10_layTerm wsX10_layBack := goodIn_r _ [52, 15, 14, 17, 16, 53, 54, 55, 56, 57, 58, 59, 60, 61, 62, 63, 64, 65, 66, 67, 68, 69, 70, 71, 72, 73, 74, 75, 76, 77, 78, 79, 80, 81, 82, 83, 84, 85, 86, 87, 88, 89, 90, 91, 92, 93, 94, 95, 96, 97, 98, 99, 100] (by decide +kernel) (by decide +kernel)
set_option maxRecDepth 20000 in
theorem gX10_layTerm_X10_layBack : GoodIn wsX10_layTerm (wsV RX10 227 RX10 yX10_layBack wsX10_layBack) := goodIn_app (goodIn_of _ (by decide +kernel)) ggX10_layTerm_X10_layBack
set_option maxRecDepth 20000 in
theorem ggX10_layMost_X10_isIn : GoodIn wsX10_layMost wsX10_isIn := goodIn_r _ [7] (by decide +kernel) (by decide +kernel)
set_option maxRecDepth 20000 in
theorem gX10_layMost_X10_isIn : GoodIn wsX10_layMost (va_wsS RX10 184 yX10_isIn wsX10_isIn) := goodIn_app (goodIn_of _ (by decide +kernel)) ggX10_layMost_X10_isIn
set_option maxRecDepth 20000 in
theorem ggX10_orderNow_X10_isIn : GoodIn wsX10_orderNow wsX10_isIn := goodIn_r _ [8] (by decide +kernel) (by decide +kernel)
set_option maxRecDepth 20000 in
theorem gX10_orderNow_X10_isIn : GoodIn wsX10_orderNow (va_wsS RX10 184 yX10_isIn wsX10_isIn) := goodIn_app (goodIn_of _ (by decide +kernel)) ggX10_orderNow_X10_isIn
set_option maxRecDepth 20000 in
theorem ggX10_termNow_X10_layTerm : GoodIn wsX10_termNow wsX10_layTerm := goodIn_r _ [6, 7, 8, 9, 10, 11, 12, 13, 14, 15, 16, 17, 5, 18, 19, 20, 21, 22, 23, 24, 25, 26, 27, 28, 29, 30, 31, 32, 33, 34, 35, 36, 37, 38, 39, 40, 41, 42, 43, 44, 45, 46, 47, 48, 49, 50, 51, 52, 53, 54, 55, 56, 57, 67, 68, 69, 70, 71, 72, 73, 74, 75, 76, 77, 78, 79, 80, 81, 82, 83, 84, 85, 86, 87, 88, 89, 90, 91, 92, 93, 94, 95, 96, 97, 98, 99, 100, 101, 102, 103, 104, 105, 106, 107, 108, 109, 110, 111, 112, 113, 114] (by decide +kernel) (by decide +kernel)
set_option maxRecDepth 20000 in
theorem gX10_termNow_X10_layTerm : GoodIn wsX10_termNow (wsV RX10 231 RX10 yX10_layTerm wsX10_layTerm) := goodIn_app (goodIn_of _ (by decide +kernel)) ggX10_termNow_X10_layTerm
set_option maxRecDepth 20000 in
theorem ggX10_termNow_X10_layMost : GoodIn wsX10_termNow wsX10_layMost := goodIn_r _ [61, 1, 8, 7, 32, 33, 5, 34, 67, 68, 69, 70, 71, 72, 73, 74, 75, 76, 77, 78, 79, 80, 81, 82, 83, 84, 85, 86, 87, 88, 89, 90, 91, 92, 93, 94, 95, 96, 97, 98, 99, 100, 101, 102, 103, 104, 105, 106, 107, 108, 109, 110, 111, 112, 113, 114] (by decide +kernel) (by decide +kernel)
set_option maxRecDepth 20000 in
theorem gX10_termNow_X10_layMost : GoodIn wsX10_termNow (wsV RX10 234 RX10 yX10_layMost wsX10_layMost) := goodIn_app (goodIn_of _ (by decide +kernel)) ggX10_termNow_X10_layMost
set_option maxRecDepth 20000 in
theorem ggX10_termNow_X10_orderNow : GoodIn wsX10_termNow wsX10_orderNow := goodIn_r _ [65, 1, 66, 8, 7, 32, 33, 5, 34, 67, 68, 69, 70, 71, 72, 73, 74, 75, 76, 77, 78, 79, 80, 81, 82, 83, 84, 85, 86, 87, 88, 89, 90, 91, 92, 93, 94, 95, 96, 97, 98, 99, 100, 101, 102, 103, 104, 105, 106, 107, 108, 109, 110, 111, 112, 113, 114] (by decide +kernel) (by decide +kernel)
set_option maxRecDepth 20000 in
theorem gX10_termNow_X10_orderNow : GoodIn wsX10_termNow (wsV RX10 237 RX10 yX10_orderNow wsX10_orderNow) := goodIn_app (goodIn_of _ (by decide +kernel)) ggX10_termNow_X10_orderNow
set_option maxRecDepth 20000 in
theorem ggX10_term_X10_within : GoodIn wsX10_term wsX10_within := goodIn_r _ [5] (by decide +kernel) (by decide +kernel)
set_option maxRecDepth 20000 in
theorem gX10_term_X10_within : GoodIn wsX10_term (va_wsS RX10 101 yX10_within wsX10_within) := goodIn_app (goodIn_of _ (by decide +kernel)) ggX10_term_X10_within
set_option maxRecDepth 20000 in
theorem ggX10_term_X10_termNow : GoodIn wsX10_term wsX10_termNow := goodIn_r _ [9, 10, 11, 12, 13, 4, 14, 15, 16, 17, 18, 19, 20, 21, 22, 23, 24, 25, 26, 27, 28, 29, 30, 31, 32, 33, 34, 35, 36, 37, 38, 39, 40, 41, 42, 43, 44, 45, 46, 47, 48, 49, 50, 51, 52, 53, 54, 55, 56, 57, 58, 59, 60, 61, 62, 63, 64, 65, 66, 67, 68, 69, 70, 71, 72, 73, 74, 75, 76, 77, 78, 79, 80, 81, 82, 83, 84, 85, 86, 87, 88, 89, 90, 91, 92, 93, 94, 95, 96, 97, 98, 99, 100, 101, 102, 103, 104, 105, 106, 107, 108, 109, 110, 111, 112, 113, 114, 115, 116, 117, 118, 119, 120, 121, 122] (by decide +kernel) (by decide +kernel)
set_option maxRecDepth 20000 in
theorem gX10_term_X10_termNow : GoodIn wsX10_term (wsV RX10 240 RX10 yX10_termNow wsX10_termNow) := goodIn_app (goodIn_of _ (by decide +kernel)) ggX10_term_X10_termNow
set_option maxRecDepth 20000 in
theorem ggX10_isSaidSo_X10_saidBy : GoodIn wsX10_isSaidSo wsX10_saidBy := goodIn_r _ [5, 6, 7, 8, 4, 9, 10, 11, 12, 13, 14, 15, 20, 21, 22, 23, 24, 25, 26, 27, 28, 29, 30, 31, 32, 33, 34, 35, 36, 37, 38, 39, 40, 41, 42, 43, 44, 45, 46, 47, 48, 49, 50, 51, 52, 53, 54, 55, 56, 57, 58, 59, 60, 61, 62, 63, 64, 65, 66, 67] (by decide +kernel) (by decide +kernel)
set_option maxRecDepth 20000 in
theorem gX10_isSaidSo_X10_saidBy : GoodIn wsX10_isSaidSo (wsV RX10 205 RX10 yX10_saidBy wsX10_saidBy) := goodIn_app (goodIn_of _ (by decide +kernel)) ggX10_isSaidSo_X10_saidBy
set_option maxRecDepth 20000 in
theorem ggX10_isSaidSo_X10_everybody : GoodIn wsX10_isSaidSo wsX10_everybody := goodIn_r _ [19, 6, 20, 21, 22, 23, 24, 25, 26, 27, 28, 29, 30, 31, 32, 33, 34, 35, 36, 37, 38, 39, 40, 41, 42, 43, 44, 45, 46, 47, 48, 49, 50, 51, 52, 53, 54, 55, 56, 57, 58, 59, 60, 61, 62, 63, 64, 65, 66, 67] (by decide +kernel) (by decide +kernel)
set_option maxRecDepth 20000 in
theorem gX10_isSaidSo_X10_everybody : GoodIn wsX10_isSaidSo (wsV RX10 202 RX10 yX10_everybody wsX10_everybody) := goodIn_app (goodIn_of _ (by decide +kernel)) ggX10_isSaidSo_X10_everybody
set_option maxRecDepth 20000 in
theorem ggX10_keepSet_X10_everybody : GoodIn wsX10_keepSet wsX10_everybody := goodIn_r _ [5, 6, 27, 28, 29, 30, 31, 32, 33, 34, 35, 36, 37, 38, 39, 40, 41, 42, 43, 44, 45, 46, 47, 48, 49, 50, 51, 52, 53, 54, 55, 56, 57, 58, 59, 60, 61, 62, 63, 64, 65, 66, 67, 68, 69, 70, 71, 72, 73, 74] (by decide +kernel) (by decide +kernel)
set_option maxRecDepth 20000 in
theorem gX10_keepSet_X10_everybody : GoodIn wsX10_keepSet (wsV RX10 202 RX10 yX10_everybody wsX10_everybody) := goodIn_app (goodIn_of _ (by decide +kernel)) ggX10_keepSet_X10_everybody
set_option maxRecDepth 20000 in
theorem ggX10_keepSet_X10_size : GoodIn wsX10_keepSet wsX10_size := goodIn_r _ [9] (by decide +kernel) (by decide +kernel)
set_option maxRecDepth 20000 in
theorem gX10_keepSet_X10_size : GoodIn wsX10_keepSet (va_wsS RX10 243 yX10_size wsX10_size) := goodIn_app (goodIn_of _ (by decide +kernel)) ggX10_keepSet_X10_size
set_option maxRecDepth 20000 in
theorem ggX10_keepSet_X10_isSaidSo : GoodIn wsX10_keepSet wsX10_isSaidSo := goodIn_r _ [13, 14, 15, 16, 4, 17, 6, 18, 19, 20, 21, 22, 23, 24, 25, 26, 1, 2, 3, 5, 27, 28, 29, 30, 31, 32, 33, 34, 35, 36, 37, 38, 39, 40, 41, 42, 43, 44, 45, 46, 47, 48, 49, 50, 51, 52, 53, 54, 55, 56, 57, 58, 59, 60, 61, 62, 63, 64, 65, 66, 67, 68, 69, 70, 71, 72, 73, 74] (by decide +kernel) (by decide +kernel)
set_option maxRecDepth 20000 in
theorem gX10_keepSet_X10_isSaidSo : GoodIn wsX10_keepSet (wsV RX10 246 RX10 yX10_isSaidSo wsX10_isSaidSo) := goodIn_app (goodIn_of _ (by decide +kernel)) ggX10_keepSet_X10_isSaidSo
set_option maxRecDepth 20000 in
theorem ggX10_keep_X10_within : GoodIn wsX10_keep wsX10_within := goodIn_r _ [5] (by decide +kernel) (by decide +kernel)
set_option maxRecDepth 20000 in
theorem gX10_keep_X10_within : GoodIn wsX10_keep (va_wsS RX10 101 yX10_within wsX10_within) := goodIn_app (goodIn_of _ (by decide +kernel)) ggX10_keep_X10_within
set_option maxRecDepth 20000 in
theorem ggX10_keep_X10_keepSet : GoodIn wsX10_keep wsX10_keepSet := goodIn_r _ [9, 10, 11, 12, 4, 13, 14, 15, 16, 17, 18, 19, 20, 21, 22, 23, 24, 25, 26, 27, 28, 29, 30, 31, 32, 33, 34, 35, 36, 37, 38, 39, 40, 41, 42, 43, 44, 45, 46, 47, 48, 49, 50, 51, 52, 53, 54, 55, 56, 57, 58, 59, 60, 61, 62, 63, 64, 65, 66, 67, 68, 69, 70, 71, 72, 73, 74, 75, 76, 77, 78, 79, 80, 81, 82] (by decide +kernel) (by decide +kernel)
set_option maxRecDepth 20000 in
theorem gX10_keep_X10_keepSet : GoodIn wsX10_keep (wsV RX10 249 RX10 yX10_keepSet wsX10_keepSet) := goodIn_app (goodIn_of _ (by decide +kernel)) ggX10_keep_X10_keepSet
set_option maxRecDepth 20000 in
theorem ggX10_keep_X10_size : GoodIn wsX10_keep wsX10_size := goodIn_r _ [17] (by decide +kernel) (by decide +kernel)
set_option maxRecDepth 20000 in
theorem gX10_keep_X10_size : GoodIn wsX10_keep (va_wsS RX10 243 yX10_size wsX10_size) := goodIn_app (goodIn_of _ (by decide +kernel)) ggX10_keep_X10_size
set_option maxRecDepth 20000 in
theorem ggX10_peaceSet_X10_everybody : GoodIn wsX10_peaceSet wsX10_everybody := goodIn_r _ [5, 6, 31, 32, 33, 34, 35, 36, 37, 38, 39, 40, 41, 42, 43, 44, 45, 46, 47, 48, 49, 50, 51, 52, 53, 54, 55, 56, 57, 58, 59, 60, 61, 62, 63, 64, 65, 66, 67, 68, 69, 70, 71, 72, 73, 74, 75, 76, 77, 78] (by decide +kernel) (by decide +kernel)
set_option maxRecDepth 20000 in
theorem gX10_peaceSet_X10_everybody : GoodIn wsX10_peaceSet (wsV RX10 202 RX10 yX10_everybody wsX10_everybody) := goodIn_app (goodIn_of _ (by decide +kernel)) ggX10_peaceSet_X10_everybody
set_option maxRecDepth 20000 in
theorem ggX10_peaceSet_X10_size : GoodIn wsX10_peaceSet wsX10_size := goodIn_r _ [9] (by decide +kernel) (by decide +kernel)
set_option maxRecDepth 20000 in
theorem gX10_peaceSet_X10_size : GoodIn wsX10_peaceSet (va_wsS RX10 243 yX10_size wsX10_size) := goodIn_app (goodIn_of _ (by decide +kernel)) ggX10_peaceSet_X10_size
set_option maxRecDepth 20000 in
theorem ggX10_peaceSet_X10_clashesAmong : GoodIn wsX10_peaceSet wsX10_clashesAmong := goodIn_r _ [13, 6, 14, 15, 4, 16, 17, 18, 19, 20, 21, 22, 23, 24, 25, 26, 27, 28, 29, 30, 31, 32, 33, 34, 35, 36, 37, 38, 39, 40, 41, 42, 43, 44, 45, 46, 47, 48, 49, 50, 51, 52, 53, 54, 55, 56, 57, 58, 59, 60, 61, 62, 63, 64, 65, 66, 67, 68, 69, 70, 71, 72, 73, 74, 75, 76, 77, 78] (by decide +kernel) (by decide +kernel)
set_option maxRecDepth 20000 in
theorem gX10_peaceSet_X10_clashesAmong : GoodIn wsX10_peaceSet (wsV RX10 252 RX10 yX10_clashesAmong wsX10_clashesAmong) := goodIn_app (goodIn_of _ (by decide +kernel)) ggX10_peaceSet_X10_clashesAmong
set_option maxRecDepth 20000 in
theorem ggX10_peace_X10_within : GoodIn wsX10_peace wsX10_within := goodIn_r _ [5] (by decide +kernel) (by decide +kernel)
set_option maxRecDepth 20000 in
theorem gX10_peace_X10_within : GoodIn wsX10_peace (va_wsS RX10 101 yX10_within wsX10_within) := goodIn_app (goodIn_of _ (by decide +kernel)) ggX10_peace_X10_within
set_option maxRecDepth 20000 in
theorem ggX10_peace_X10_peaceSet : GoodIn wsX10_peace wsX10_peaceSet := goodIn_r _ [9, 10, 11, 12, 4, 13, 14, 15, 16, 17, 18, 19, 20, 21, 22, 23, 24, 25, 26, 27, 28, 29, 30, 31, 32, 33, 34, 35, 36, 37, 38, 39, 40, 41, 42, 43, 44, 45, 46, 47, 48, 49, 50, 51, 52, 53, 54, 55, 56, 57, 58, 59, 60, 61, 62, 63, 64, 65, 66, 67, 68, 69, 70, 71, 72, 73, 74, 75, 76, 77, 78, 79, 80, 81, 82, 83, 84, 85, 86] (by decide +kernel) (by decide +kernel)
set_option maxRecDepth 20000 in
theorem gX10_peace_X10_peaceSet : GoodIn wsX10_peace (wsV RX10 255 RX10 yX10_peaceSet wsX10_peaceSet) := goodIn_app (goodIn_of _ (by decide +kernel)) ggX10_peace_X10_peaceSet
set_option maxRecDepth 20000 in
theorem ggX10_peace_X10_size : GoodIn wsX10_peace wsX10_size := goodIn_r _ [17] (by decide +kernel) (by decide +kernel)
set_option maxRecDepth 20000 in
theorem gX10_peace_X10_size : GoodIn wsX10_peace (va_wsS RX10 243 yX10_size wsX10_size) := goodIn_app (goodIn_of _ (by decide +kernel)) ggX10_peace_X10_size
set_option maxRecDepth 20000 in
theorem ggX10_isWorld_X10_isWrong : GoodIn wsX10_isWorld wsX10_isWrong := goodIn_r _ [6, 7, 8, 9, 10, 11, 12, 13, 14, 15, 16, 17, 18, 19, 20, 21, 22, 23, 24, 25, 26, 27, 28, 29, 30, 31, 32, 33, 34, 35, 36, 37, 38, 39, 40, 41, 42, 43, 44, 45, 46, 47, 48, 49, 50, 51, 52, 53, 54, 55, 56] (by decide +kernel) (by decide +kernel)
set_option maxRecDepth 20000 in
theorem gX10_isWorld_X10_isWrong : GoodIn wsX10_isWorld (wsV RX10 258 RX10 yX10_isWrong wsX10_isWrong) := goodIn_app (goodIn_of _ (by decide +kernel)) ggX10_isWorld_X10_isWrong
set_option maxRecDepth 20000 in
theorem ggX10_worldsNow_X10_isWorld : GoodIn wsX10_worldsNow wsX10_isWorld := goodIn_r _ [5, 6, 7, 8, 9, 4, 10, 11, 12, 13, 14, 15, 16, 17, 18, 19, 20, 21, 22, 23, 24, 25, 26, 27, 28, 29, 30, 31, 32, 33, 34, 35, 36, 37, 38, 39, 40, 41, 42, 43, 44, 45, 46, 47, 48, 49, 50, 51, 52, 53, 54, 55, 56, 57, 58, 59, 60] (by decide +kernel) (by decide +kernel)
set_option maxRecDepth 20000 in
theorem gX10_worldsNow_X10_isWorld : GoodIn wsX10_worldsNow (wsV RX10 261 RX10 yX10_isWorld wsX10_isWorld) := goodIn_app (goodIn_of _ (by decide +kernel)) ggX10_worldsNow_X10_isWorld
set_option maxRecDepth 20000 in
theorem ggX10_worlds_X10_within : GoodIn wsX10_worlds wsX10_within := goodIn_r _ [5] (by decide +kernel) (by decide +kernel)
set_option maxRecDepth 20000 in
theorem gX10_worlds_X10_within : GoodIn wsX10_worlds (va_wsS RX10 101 yX10_within wsX10_within) := goodIn_app (goodIn_of _ (by decide +kernel)) ggX10_worlds_X10_within
set_option maxRecDepth 20000 in
theorem ggX10_worlds_X10_worldsNow : GoodIn wsX10_worlds wsX10_worldsNow := goodIn_r _ [9, 10, 11, 12, 4, 13, 14, 15, 16, 17, 18, 19, 20, 21, 22, 23, 24, 25, 26, 27, 28, 29, 30, 31, 32, 33, 34, 35, 36, 37, 38, 39, 40, 41, 42, 43, 44, 45, 46, 47, 48, 49, 50, 51, 52, 53, 54, 55, 56, 57, 58, 59, 60, 61, 62, 63, 64, 65, 66, 67, 68] (by decide +kernel) (by decide +kernel)
set_option maxRecDepth 20000 in
theorem gX10_worlds_X10_worldsNow : GoodIn wsX10_worlds (wsV RX10 264 RX10 yX10_worldsNow wsX10_worldsNow) := goodIn_app (goodIn_of _ (by decide +kernel)) ggX10_worlds_X10_worldsNow
set_option maxRecDepth 20000 in
theorem ggX10_oddsNow_X10_isWorld : GoodIn wsX10_oddsNow wsX10_isWorld := goodIn_r _ [5, 6, 7, 8, 9, 4, 10, 11, 12, 20, 21, 22, 23, 24, 25, 26, 27, 28, 29, 30, 31, 32, 33, 34, 35, 36, 37, 38, 39, 40, 41, 42, 43, 44, 45, 46, 47, 48, 49, 50, 51, 52, 53, 54, 55, 56, 57, 58, 59, 60, 61, 62, 63, 64, 65, 66, 67] (by decide +kernel) (by decide +kernel)
set_option maxRecDepth 20000 in
theorem gX10_oddsNow_X10_isWorld : GoodIn wsX10_oddsNow (wsV RX10 261 RX10 yX10_isWorld wsX10_isWorld) := goodIn_app (goodIn_of _ (by decide +kernel)) ggX10_oddsNow_X10_isWorld
set_option maxRecDepth 20000 in
theorem ggX10_oddsNow_X10_worldsNow : GoodIn wsX10_oddsNow wsX10_worldsNow := goodIn_r _ [16, 1, 2, 3, 4, 5, 6, 7, 8, 9, 10, 11, 12, 20, 21, 22, 23, 24, 25, 26, 27, 28, 29, 30, 31, 32, 33, 34, 35, 36, 37, 38, 39, 40, 41, 42, 43, 44, 45, 46, 47, 48, 49, 50, 51, 52, 53, 54, 55, 56, 57, 58, 59, 60, 61, 62, 63, 64, 65, 66, 67] (by decide +kernel) (by decide +kernel)
set_option maxRecDepth 20000 in
theorem gX10_oddsNow_X10_worldsNow : GoodIn wsX10_oddsNow (wsV RX10 264 RX10 yX10_worldsNow wsX10_worldsNow) := goodIn_app (goodIn_of _ (by decide +kernel)) ggX10_oddsNow_X10_worldsNow
set_option maxRecDepth 20000 in
theorem ggX10_oddsNow_X10_divisor : GoodIn wsX10_oddsNow wsX10_divisor := goodIn_r _ [19] (by decide +kernel) (by decide +kernel)
set_option maxRecDepth 20000 in
theorem gX10_oddsNow_X10_divisor : GoodIn wsX10_oddsNow (va_wsS RX10 267 yX10_divisor wsX10_divisor) := goodIn_app (goodIn_of _ (by decide +kernel)) ggX10_oddsNow_X10_divisor
set_option maxRecDepth 20000 in
theorem ggX10_odds_X10_isSight : GoodIn wsX10_odds wsX10_isSight := goodIn_r _ [5, 6, 7, 4, 8] (by decide +kernel) (by decide +kernel)
set_option maxRecDepth 20000 in
theorem gX10_odds_X10_isSight : GoodIn wsX10_odds (va_wsS RX10 208 yX10_isSight wsX10_isSight) := goodIn_app (goodIn_of _ (by decide +kernel)) ggX10_odds_X10_isSight
set_option maxRecDepth 20000 in
theorem ggX10_odds_X10_within : GoodIn wsX10_odds wsX10_within := goodIn_r _ [8] (by decide +kernel) (by decide +kernel)
set_option maxRecDepth 20000 in
theorem gX10_odds_X10_within : GoodIn wsX10_odds (va_wsS RX10 101 yX10_within wsX10_within) := goodIn_app (goodIn_of _ (by decide +kernel)) ggX10_odds_X10_within
set_option maxRecDepth 20000 in
theorem ggX10_odds_X10_oddsNow : GoodIn wsX10_odds wsX10_oddsNow := goodIn_r _ [12, 13, 14, 15, 4, 16, 17, 18, 19, 20, 21, 22, 23, 24, 25, 26, 27, 28, 29, 30, 31, 32, 33, 34, 35, 36, 37, 38, 39, 40, 41, 42, 43, 44, 45, 46, 47, 48, 49, 50, 51, 52, 53, 54, 55, 56, 57, 58, 59, 60, 61, 62, 63, 64, 65, 66, 67, 68, 69, 70, 71, 72, 73, 74, 75, 76, 77, 78] (by decide +kernel) (by decide +kernel)
set_option maxRecDepth 20000 in
theorem gX10_odds_X10_oddsNow : GoodIn wsX10_odds (wsV RX10 270 RX10 yX10_oddsNow wsX10_oddsNow) := goodIn_app (goodIn_of _ (by decide +kernel)) ggX10_odds_X10_oddsNow
set_option maxRecDepth 20000 in
theorem ggX10_see_X10_isWitness : GoodIn wsX10_see wsX10_isWitness := goodIn_r _ [9, 10, 11, 12, 8, 13, 14, 15, 16, 17, 18, 19, 20, 21, 22, 23, 24, 25, 26, 27, 28, 29, 30, 31, 32, 33, 34, 35, 36, 37, 38, 39, 40, 41, 42, 43, 44, 45, 46, 47, 48, 49, 50, 51, 52, 53, 54, 55, 56, 57, 58, 59, 60, 61] (by decide +kernel) (by decide +kernel)
set_option maxRecDepth 20000 in
theorem gX10_see_X10_isWitness : GoodIn wsX10_see (wsV RX10 196 RX10 yX10_isWitness wsX10_isWitness) := goodIn_app (goodIn_of _ (by decide +kernel)) ggX10_see_X10_isWitness
set_option maxRecDepth 20000 in
theorem ggX10_see_X10_within : GoodIn wsX10_see wsX10_within := goodIn_r _ [13] (by decide +kernel) (by decide +kernel)
set_option maxRecDepth 20000 in
theorem gX10_see_X10_within : GoodIn wsX10_see (va_wsS RX10 101 yX10_within wsX10_within) := goodIn_app (goodIn_of _ (by decide +kernel)) ggX10_see_X10_within
set_option maxRecDepth 20000 in
theorem ggX10_sortsOf_X10_could : GoodIn wsX10_sortsOf wsX10_could := goodIn_r _ [8] (by decide +kernel) (by decide +kernel)
set_option maxRecDepth 20000 in
theorem gX10_sortsOf_X10_could : GoodIn wsX10_sortsOf (va_wsS RX10 274 yX10_could wsX10_could) := goodIn_app (goodIn_of _ (by decide +kernel)) ggX10_sortsOf_X10_could
set_option maxRecDepth 20000 in
theorem ggX10_askOf_X10_sortsOf : GoodIn wsX10_askOf wsX10_sortsOf := goodIn_r _ [6, 7, 8, 9, 10, 11, 12, 5, 13, 20, 21, 22, 23, 24, 25, 26, 27, 28, 29, 30, 31, 32, 33, 34, 35, 36, 37, 38, 39, 40, 41, 42, 43, 44, 45, 46, 47, 48, 49, 50, 51, 52, 53, 54, 55, 56, 57, 58, 59, 60, 61, 62, 63, 64, 65, 66, 67] (by decide +kernel) (by decide +kernel)
set_option maxRecDepth 20000 in
theorem gX10_askOf_X10_sortsOf : GoodIn wsX10_askOf (wsV RX10 187 RX10 yX10_sortsOf wsX10_sortsOf) := goodIn_app (goodIn_of _ (by decide +kernel)) ggX10_askOf_X10_sortsOf
set_option maxRecDepth 20000 in
theorem ggX10_askOf_X10_isIn : GoodIn wsX10_askOf wsX10_isIn := goodIn_r _ [16] (by decide +kernel) (by decide +kernel)
set_option maxRecDepth 20000 in
theorem gX10_askOf_X10_isIn : GoodIn wsX10_askOf (va_wsS RX10 184 yX10_isIn wsX10_isIn) := goodIn_app (goodIn_of _ (by decide +kernel)) ggX10_askOf_X10_isIn
set_option maxRecDepth 20000 in
theorem ggX10_askOf_X10_could : GoodIn wsX10_askOf wsX10_could := goodIn_r _ [13] (by decide +kernel) (by decide +kernel)
set_option maxRecDepth 20000 in
theorem gX10_askOf_X10_could : GoodIn wsX10_askOf (va_wsS RX10 274 yX10_could wsX10_could) := goodIn_app (goodIn_of _ (by decide +kernel)) ggX10_askOf_X10_could
set_option maxRecDepth 20000 in
theorem ggX10_askOf_X10_size : GoodIn wsX10_askOf wsX10_size := goodIn_r _ [19] (by decide +kernel) (by decide +kernel)
set_option maxRecDepth 20000 in
theorem gX10_askOf_X10_size : GoodIn wsX10_askOf (va_wsS RX10 243 yX10_size wsX10_size) := goodIn_app (goodIn_of _ (by decide +kernel)) ggX10_askOf_X10_size
set_option maxRecDepth 20000 in
theorem ggX10_drawnNow_X10_lay : GoodIn wsX10_drawnNow wsX10_lay := goodIn_r _ [7, 8, 9, 10, 11, 58, 59, 60, 61, 62, 63, 64, 65, 66, 67, 68, 69, 70, 71, 72, 73, 74, 75, 76, 77, 78, 79, 80, 81, 82, 83, 84, 85, 86, 87, 88, 89, 90, 91, 92, 93, 94, 95, 96, 97, 98, 99, 100, 101, 102, 103, 104, 105] (by decide +kernel) (by decide +kernel)
set_option maxRecDepth 20000 in
theorem gX10_drawnNow_X10_lay : GoodIn wsX10_drawnNow (wsV RX10 224 RX10 yX10_lay wsX10_lay) := goodIn_app (goodIn_of _ (by decide +kernel)) ggX10_drawnNow_X10_lay
set_option maxRecDepth 20000 in
theorem ggX10_drawnNow_X10_draw : GoodIn wsX10_drawnNow wsX10_draw := goodIn_r _ [15, 16, 1, 17, 18, 19, 58, 59, 60, 61, 62, 63, 64, 65, 66, 67, 68, 69, 70, 71, 72, 73, 74, 75, 76, 77, 78, 79, 80, 81, 82, 83, 84, 85, 86, 87, 88, 89, 90, 91, 92, 93, 94, 95, 96, 97, 98, 99, 100, 101, 102, 103, 104, 105] (by decide +kernel) (by decide +kernel)
set_option maxRecDepth 20000 in
theorem gX10_drawnNow_X10_draw : GoodIn wsX10_drawnNow (wsV RX10 289 RX10 yX10_draw wsX10_draw) := goodIn_app (goodIn_of _ (by decide +kernel)) ggX10_drawnNow_X10_draw
set_option maxRecDepth 20000 in
theorem ggX10_drawnNow_X10_showNow : GoodIn wsX10_drawnNow wsX10_showNow := goodIn_r _ [23, 24, 11, 9, 25, 26, 27, 6, 28, 29, 30, 31, 32, 33, 34, 35, 36, 37, 38, 58, 59, 60, 61, 62, 63, 64, 65, 66, 67, 68, 69, 70, 71, 72, 73, 74, 75, 76, 77, 78, 79, 80, 81, 82, 83, 84, 85, 86, 87, 88, 89, 90, 91, 92, 93, 94, 95, 96, 97, 98, 99, 100, 101, 102, 103, 104, 105] (by decide +kernel) (by decide +kernel)
set_option maxRecDepth 20000 in
theorem gX10_drawnNow_X10_showNow : GoodIn wsX10_drawnNow (wsV RX10 221 RX10 yX10_showNow wsX10_showNow) := goodIn_app (goodIn_of _ (by decide +kernel)) ggX10_drawnNow_X10_showNow
set_option maxRecDepth 20000 in
theorem ggX10_drawnNow_X10_everybody : GoodIn wsX10_drawnNow wsX10_everybody := goodIn_r _ [42, 2, 58, 59, 60, 61, 62, 63, 64, 65, 66, 67, 68, 69, 70, 71, 72, 73, 74, 75, 76, 77, 78, 79, 80, 81, 82, 83, 84, 85, 86, 87, 88, 89, 90, 91, 92, 93, 94, 95, 96, 97, 98, 99, 100, 101, 102, 103, 104, 105] (by decide +kernel) (by decide +kernel)
set_option maxRecDepth 20000 in
theorem gX10_drawnNow_X10_everybody : GoodIn wsX10_drawnNow (wsV RX10 202 RX10 yX10_everybody wsX10_everybody) := goodIn_app (goodIn_of _ (by decide +kernel)) ggX10_drawnNow_X10_everybody
set_option maxRecDepth 20000 in
theorem ggX10_drawnNow_X10_clashesAmong : GoodIn wsX10_drawnNow wsX10_clashesAmong := goodIn_r _ [46, 2, 47, 48, 6, 49, 50, 51, 52, 53, 25, 26, 27, 28, 29, 30, 31, 32, 11, 9, 58, 59, 60, 61, 62, 63, 64, 65, 66, 67, 68, 69, 70, 71, 72, 73, 74, 75, 76, 77, 78, 79, 80, 81, 82, 83, 84, 85, 86, 87, 88, 89, 90, 91, 92, 93, 94, 95, 96, 97, 98, 99, 100, 101, 102, 103, 104, 105] (by decide +kernel) (by decide +kernel)
set_option maxRecDepth 20000 in
theorem gX10_drawnNow_X10_clashesAmong : GoodIn wsX10_drawnNow (wsV RX10 252 RX10 yX10_clashesAmong wsX10_clashesAmong) := goodIn_app (goodIn_of _ (by decide +kernel)) ggX10_drawnNow_X10_clashesAmong
set_option maxRecDepth 20000 in
theorem ggX10_drawnNow_X10_layBack : GoodIn wsX10_drawnNow wsX10_layBack := goodIn_r _ [57, 9, 8, 11, 10, 58, 59, 60, 61, 62, 63, 64, 65, 66, 67, 68, 69, 70, 71, 72, 73, 74, 75, 76, 77, 78, 79, 80, 81, 82, 83, 84, 85, 86, 87, 88, 89, 90, 91, 92, 93, 94, 95, 96, 97, 98, 99, 100, 101, 102, 103, 104, 105] (by decide +kernel) (by decide +kernel)
set_option maxRecDepth 20000 in
theorem gX10_drawnNow_X10_layBack : GoodIn wsX10_drawnNow (wsV RX10 227 RX10 yX10_layBack wsX10_layBack) := goodIn_app (goodIn_of _ (by decide +kernel)) ggX10_drawnNow_X10_layBack
set_option maxRecDepth 20000 in
theorem ggX10_drawn_X10_within : GoodIn wsX10_drawn wsX10_within := goodIn_r _ [5] (by decide +kernel) (by decide +kernel)
set_option maxRecDepth 20000 in
theorem gX10_drawn_X10_within : GoodIn wsX10_drawn (va_wsS RX10 101 yX10_within wsX10_within) := goodIn_app (goodIn_of _ (by decide +kernel)) ggX10_drawn_X10_within
set_option maxRecDepth 20000 in
theorem ggX10_drawn_X10_drawnNow : GoodIn wsX10_drawn wsX10_drawnNow := goodIn_r _ [9, 10, 11, 12, 13, 14, 4, 15, 16, 17, 18, 19, 20, 21, 22, 23, 24, 25, 26, 27, 28, 29, 30, 31, 32, 33, 34, 35, 36, 37, 38, 39, 40, 41, 42, 43, 44, 45, 46, 47, 48, 49, 50, 51, 52, 53, 54, 55, 56, 57, 58, 59, 60, 61, 62, 63, 64, 65, 66, 67, 68, 69, 70, 71, 72, 73, 74, 75, 76, 77, 78, 79, 80, 81, 82, 83, 84, 85, 86, 87, 88, 89, 90, 91, 92, 93, 94, 95, 96, 97, 98, 99, 100, 101, 102, 103, 104, 105, 106, 107, 108, 109, 110, 111, 112, 113] (by decide +kernel) (by decide +kernel)
set_option maxRecDepth 20000 in
theorem gX10_drawn_X10_drawnNow : GoodIn wsX10_drawn (wsV RX10 292 RX10 yX10_drawnNow wsX10_drawnNow) := goodIn_app (goodIn_of _ (by decide +kernel)) ggX10_drawn_X10_drawnNow
set_option maxRecDepth 20000 in
theorem ggX10_sightsOfAll_X10_size : GoodIn wsX10_sightsOfAll wsX10_size := goodIn_r _ [7] (by decide +kernel) (by decide +kernel)
set_option maxRecDepth 20000 in
theorem gX10_sightsOfAll_X10_size : GoodIn wsX10_sightsOfAll (va_wsS RX10 243 yX10_size wsX10_size) := goodIn_app (goodIn_of _ (by decide +kernel)) ggX10_sightsOfAll_X10_size
set_option maxRecDepth 20000 in
theorem ggX10_howMany_X10_sightsOfAll : GoodIn wsX10_howMany wsX10_sightsOfAll := goodIn_r _ [12, 1, 13, 14, 15, 16, 11, 17, 41, 42, 43, 44, 45, 46, 47, 48, 49, 50, 51, 52, 53, 54, 55, 56, 57, 58, 59, 60, 61, 62, 63, 64, 65, 66, 67, 68, 69, 70, 71, 72, 73, 74, 75, 76, 77, 78, 79, 80, 81, 82, 83, 84, 85, 86, 87, 88] (by decide +kernel) (by decide +kernel)
set_option maxRecDepth 20000 in
theorem gX10_howMany_X10_sightsOfAll : GoodIn wsX10_howMany (wsV RX10 311 RX10 yX10_sightsOfAll wsX10_sightsOfAll) := goodIn_app (goodIn_of _ (by decide +kernel)) ggX10_howMany_X10_sightsOfAll
set_option maxRecDepth 20000 in
theorem ggX10_howMany_X10_everybody : GoodIn wsX10_howMany wsX10_everybody := goodIn_r _ [21, 1, 41, 42, 43, 44, 45, 46, 47, 48, 49, 50, 51, 52, 53, 54, 55, 56, 57, 58, 59, 60, 61, 62, 63, 64, 65, 66, 67, 68, 69, 70, 71, 72, 73, 74, 75, 76, 77, 78, 79, 80, 81, 82, 83, 84, 85, 86, 87, 88] (by decide +kernel) (by decide +kernel)
set_option maxRecDepth 20000 in
theorem gX10_howMany_X10_everybody : GoodIn wsX10_howMany (wsV RX10 202 RX10 yX10_everybody wsX10_everybody) := goodIn_app (goodIn_of _ (by decide +kernel)) ggX10_howMany_X10_everybody
set_option maxRecDepth 20000 in
theorem ggX10_howMany_X10_clashesAmong : GoodIn wsX10_howMany wsX10_clashesAmong := goodIn_r _ [25, 1, 26, 27, 11, 28, 29, 30, 31, 32, 33, 34, 35, 36, 37, 38, 39, 40, 13, 14, 41, 42, 43, 44, 45, 46, 47, 48, 49, 50, 51, 52, 53, 54, 55, 56, 57, 58, 59, 60, 61, 62, 63, 64, 65, 66, 67, 68, 69, 70, 71, 72, 73, 74, 75, 76, 77, 78, 79, 80, 81, 82, 83, 84, 85, 86, 87, 88] (by decide +kernel) (by decide +kernel)
set_option maxRecDepth 20000 in
theorem gX10_howMany_X10_clashesAmong : GoodIn wsX10_howMany (wsV RX10 252 RX10 yX10_clashesAmong wsX10_clashesAmong) := goodIn_app (goodIn_of _ (by decide +kernel)) ggX10_howMany_X10_clashesAmong
set_option maxRecDepth 20000 in
theorem ggX10_count_X10_howMany : GoodIn wsX10_count wsX10_howMany := goodIn_r _ [5, 6, 7, 8, 9, 10, 11, 12, 13, 14, 15, 4, 16, 17, 18, 19, 20, 21, 22, 23, 24, 25, 26, 27, 28, 29, 30, 31, 32, 33, 34, 35, 36, 37, 38, 39, 40, 41, 42, 43, 44, 45, 46, 47, 48, 49, 50, 51, 52, 53, 54, 55, 56, 57, 58, 59, 60, 61, 62, 63, 64, 65, 66, 67, 68, 69, 70, 71, 72, 73, 74, 75, 76, 77, 78, 79, 80, 81, 82, 83, 84, 85, 86, 87, 88, 89, 90, 91, 92] (by decide +kernel) (by decide +kernel)
set_option maxRecDepth 20000 in
theorem gX10_count_X10_howMany : GoodIn wsX10_count (wsV RX10 314 RX10 yX10_howMany wsX10_howMany) := goodIn_app (goodIn_of _ (by decide +kernel)) ggX10_count_X10_howMany
set_option maxRecDepth 20000 in
theorem ggX10_mixWall_X10_everybody : GoodIn wsX10_mixWall wsX10_everybody := goodIn_r _ [5, 6, 112, 113, 114, 115, 116, 117, 118, 119, 120, 121, 122, 123, 124, 125, 126, 127, 128, 129, 130, 131, 132, 133, 134, 135, 136, 137, 138, 139, 140, 141, 142, 143, 144, 145, 146, 147, 148, 149, 150, 151, 152, 153, 154, 155, 156, 157, 158, 159] (by decide +kernel) (by decide +kernel)
set_option maxRecDepth 20000 in
theorem gX10_mixWall_X10_everybody : GoodIn wsX10_mixWall (wsV RX10 202 RX10 yX10_everybody wsX10_everybody) := goodIn_app (goodIn_of _ (by decide +kernel)) ggX10_mixWall_X10_everybody
set_option maxRecDepth 20000 in
theorem ggX10_mixWall_X10_saidBy : GoodIn wsX10_mixWall wsX10_saidBy := goodIn_r _ [10, 6, 11, 12, 4, 13, 14, 15, 16, 17, 18, 19, 112, 113, 114, 115, 116, 117, 118, 119, 120, 121, 122, 123, 124, 125, 126, 127, 128, 129, 130, 131, 132, 133, 134, 135, 136, 137, 138, 139, 140, 141, 142, 143, 144, 145, 146, 147, 148, 149, 150, 151, 152, 153, 154, 155, 156, 157, 158, 159] (by decide +kernel) (by decide +kernel)
set_option maxRecDepth 20000 in
theorem gX10_mixWall_X10_saidBy : GoodIn wsX10_mixWall (wsV RX10 205 RX10 yX10_saidBy wsX10_saidBy) := goodIn_app (goodIn_of _ (by decide +kernel)) ggX10_mixWall_X10_saidBy
set_option maxRecDepth 20000 in
theorem ggX10_mixWall_X10_mix : GoodIn wsX10_mixWall wsX10_mix := goodIn_r _ [23, 24, 25, 112, 113, 114, 115, 116, 117, 118, 119, 120, 121, 122, 123, 124, 125, 126, 127, 128, 129, 130, 131, 132, 133, 134, 135, 136, 137, 138, 139, 140, 141, 142, 143, 144, 145, 146, 147, 148, 149, 150, 151, 152, 153, 154, 155, 156, 157, 158, 159] (by decide +kernel) (by decide +kernel)
set_option maxRecDepth 20000 in
theorem gX10_mixWall_X10_mix : GoodIn wsX10_mixWall (wsV RX10 322 RX10 yX10_mix wsX10_mix) := goodIn_app (goodIn_of _ (by decide +kernel)) ggX10_mixWall_X10_mix
set_option maxRecDepth 20000 in
theorem ggX10_mixWall_X10_termNow : GoodIn wsX10_mixWall wsX10_termNow := goodIn_r _ [29, 30, 31, 32, 33, 4, 34, 35, 36, 37, 38, 39, 40, 41, 42, 43, 44, 45, 46, 47, 19, 48, 18, 1, 2, 3, 5, 6, 7, 8, 9, 10, 11, 12, 13, 14, 15, 16, 17, 49, 50, 51, 52, 53, 54, 55, 56, 57, 58, 59, 60, 61, 62, 63, 64, 65, 66, 67, 68, 69, 70, 71, 72, 73, 74, 75, 76, 112, 113, 114, 115, 116, 117, 118, 119, 120, 121, 122, 123, 124, 125, 126, 127, 128, 129, 130, 131, 132, 133, 134, 135, 136, 137, 138, 139, 140, 141, 142, 143, 144, 145, 146, 147, 148, 149, 150, 151, 152, 153, 154, 155, 156, 157, 158, 159] (by decide +kernel) (by decide +kernel)
set_option maxRecDepth 20000 in
theorem gX10_mixWall_X10_termNow : GoodIn wsX10_mixWall (wsV RX10 240 RX10 yX10_termNow wsX10_termNow) := goodIn_app (goodIn_of _ (by decide +kernel)) ggX10_mixWall_X10_termNow
set_option maxRecDepth 20000 in
theorem ggX10_mixWall_X10_keepSet : GoodIn wsX10_mixWall wsX10_keepSet := goodIn_r _ [80, 1, 2, 3, 4, 5, 6, 81, 82, 83, 84, 85, 86, 87, 7, 8, 9, 10, 11, 12, 13, 14, 15, 16, 17, 18, 19, 112, 113, 114, 115, 116, 117, 118, 119, 120, 121, 122, 123, 124, 125, 126, 127, 128, 129, 130, 131, 132, 133, 134, 135, 136, 137, 138, 139, 140, 141, 142, 143, 144, 145, 146, 147, 148, 149, 150, 151, 152, 153, 154, 155, 156, 157, 158, 159] (by decide +kernel) (by decide +kernel)
set_option maxRecDepth 20000 in
theorem gX10_mixWall_X10_keepSet : GoodIn wsX10_mixWall (wsV RX10 249 RX10 yX10_keepSet wsX10_keepSet) := goodIn_app (goodIn_of _ (by decide +kernel)) ggX10_mixWall_X10_keepSet
set_option maxRecDepth 20000 in
theorem ggX10_mixWall_X10_size : GoodIn wsX10_mixWall wsX10_size := goodIn_r _ [83] (by decide +kernel) (by decide +kernel)
set_option maxRecDepth 20000 in
theorem gX10_mixWall_X10_size : GoodIn wsX10_mixWall (va_wsS RX10 243 yX10_size wsX10_size) := goodIn_app (goodIn_of _ (by decide +kernel)) ggX10_mixWall_X10_size
set_option maxRecDepth 20000 in
theorem ggX10_mixWall_X10_peaceSet : GoodIn wsX10_mixWall wsX10_peaceSet := goodIn_r _ [91, 1, 2, 3, 4, 5, 6, 81, 82, 83, 92, 93, 94, 95, 11, 12, 13, 96, 97, 98, 99, 54, 55, 56, 57, 14, 15, 16, 17, 18, 19, 112, 113, 114, 115, 116, 117, 118, 119, 120, 121, 122, 123, 124, 125, 126, 127, 128, 129, 130, 131, 132, 133, 134, 135, 136, 137, 138, 139, 140, 141, 142, 143, 144, 145, 146, 147, 148, 149, 150, 151, 152, 153, 154, 155, 156, 157, 158, 159] (by decide +kernel) (by decide +kernel)
set_option maxRecDepth 20000 in
theorem gX10_mixWall_X10_peaceSet : GoodIn wsX10_mixWall (wsV RX10 255 RX10 yX10_peaceSet wsX10_peaceSet) := goodIn_app (goodIn_of _ (by decide +kernel)) ggX10_mixWall_X10_peaceSet
set_option maxRecDepth 20000 in
theorem ggX10_mixWall_X10_worldsNow : GoodIn wsX10_mixWall wsX10_worldsNow := goodIn_r _ [103, 104, 105, 106, 4, 107, 6, 108, 109, 110, 111, 18, 19, 112, 113, 114, 115, 116, 117, 118, 119, 120, 121, 122, 123, 124, 125, 126, 127, 128, 129, 130, 131, 132, 133, 134, 135, 136, 137, 138, 139, 140, 141, 142, 143, 144, 145, 146, 147, 148, 149, 150, 151, 152, 153, 154, 155, 156, 157, 158, 159] (by decide +kernel) (by decide +kernel)
set_option maxRecDepth 20000 in
theorem gX10_mixWall_X10_worldsNow : GoodIn wsX10_mixWall (wsV RX10 264 RX10 yX10_worldsNow wsX10_worldsNow) := goodIn_app (goodIn_of _ (by decide +kernel)) ggX10_mixWall_X10_worldsNow
set_option maxRecDepth 20000 in
theorem ggX10_digest_X10_witnessNow : GoodIn wsX10_digest wsX10_witnessNow := goodIn_r _ [11, 12, 13, 14, 15, 16, 17, 10, 18, 19, 20, 21, 22, 23, 24, 25, 26, 27, 28, 29, 30, 31, 32, 33, 34, 35, 36, 37, 38, 39, 40, 3, 41, 42, 43, 44, 45, 46, 47, 48, 49, 50, 51, 52, 152, 153, 154, 155, 156, 157, 158, 159, 160, 161, 162, 163, 164, 165, 166, 167, 168, 169, 170, 171, 172, 173, 174, 175, 176, 177, 178, 179, 180, 181, 182, 183, 184, 185, 186, 187, 188, 189, 190, 191, 192, 193, 194, 195, 196, 197, 198, 199] (by decide +kernel) (by decide +kernel)
set_option maxRecDepth 20000 in
theorem gX10_digest_X10_witnessNow : GoodIn wsX10_digest (wsV RX10 199 RX10 yX10_witnessNow wsX10_witnessNow) := goodIn_app (goodIn_of _ (by decide +kernel)) ggX10_digest_X10_witnessNow
set_option maxRecDepth 20000 in
theorem ggX10_digest_X10_mix : GoodIn wsX10_digest wsX10_mix := goodIn_r _ [56, 57, 2, 152, 153, 154, 155, 156, 157, 158, 159, 160, 161, 162, 163, 164, 165, 166, 167, 168, 169, 170, 171, 172, 173, 174, 175, 176, 177, 178, 179, 180, 181, 182, 183, 184, 185, 186, 187, 188, 189, 190, 191, 192, 193, 194, 195, 196, 197, 198, 199] (by decide +kernel) (by decide +kernel)
set_option maxRecDepth 20000 in
theorem gX10_digest_X10_mix : GoodIn wsX10_digest (wsV RX10 322 RX10 yX10_mix wsX10_mix) := goodIn_app (goodIn_of _ (by decide +kernel)) ggX10_digest_X10_mix
set_option maxRecDepth 20000 in
theorem ggX10_digest_X10_mixWall : GoodIn wsX10_digest wsX10_mixWall := goodIn_r _ [61, 62, 63, 64, 10, 65, 3, 66, 67, 68, 69, 31, 32, 33, 49, 50, 51, 52, 13, 14, 53, 54, 55, 56, 57, 2, 70, 71, 72, 73, 74, 75, 76, 77, 78, 79, 80, 81, 82, 83, 84, 85, 86, 87, 88, 89, 90, 91, 92, 93, 94, 95, 96, 12, 45, 46, 47, 48, 97, 98, 99, 100, 101, 102, 103, 104, 105, 106, 107, 108, 109, 110, 111, 112, 113, 114, 30, 115, 116, 117, 118, 34, 35, 36, 119, 120, 121, 122, 123, 124, 125, 126, 127, 128, 129, 130, 41, 42, 43, 44, 131, 132, 133, 134, 135, 136, 137, 138, 139, 140, 141, 142, 152, 153, 154, 155, 156, 157, 158, 159, 160, 161, 162, 163, 164, 165, 166, 167, 168, 169, 170, 171, 172, 173, 174, 175, 176, 177, 178, 179, 180, 181, 182, 183, 184, 185, 186, 187, 188, 189, 190, 191, 192, 193, 194, 195, 196, 197, 198, 199] (by decide +kernel) (by decide +kernel)
set_option maxRecDepth 20000 in
theorem gX10_digest_X10_mixWall : GoodIn wsX10_digest (wsV RX10 328 RX10 yX10_mixWall wsX10_mixWall) := goodIn_app (goodIn_of _ (by decide +kernel)) ggX10_digest_X10_mixWall
set_option maxRecDepth 20000 in
theorem ggX10_digest_X10_howMany : GoodIn wsX10_digest wsX10_howMany := goodIn_r _ [146, 3, 80, 83, 147, 19, 5, 4, 148, 149, 150, 10, 151, 13, 14, 34, 35, 36, 62, 63, 64, 65, 127, 128, 129, 130, 31, 32, 33, 41, 42, 43, 44, 45, 46, 47, 48, 49, 50, 51, 52, 152, 153, 154, 155, 156, 157, 158, 159, 160, 161, 162, 163, 164, 165, 166, 167, 168, 169, 170, 171, 172, 173, 174, 175, 176, 177, 178, 179, 180, 181, 182, 183, 184, 185, 186, 187, 188, 189, 190, 191, 192, 193, 194, 195, 196, 197, 198, 199] (by decide +kernel) (by decide +kernel)
set_option maxRecDepth 20000 in
theorem gX10_digest_X10_howMany : GoodIn wsX10_digest (wsV RX10 314 RX10 yX10_howMany wsX10_howMany) := goodIn_app (goodIn_of _ (by decide +kernel)) ggX10_digest_X10_howMany
set_option maxRecDepth 20000 in
theorem ggL_law_X9_init : GoodIn wsL_law wsX9_init := goodIn_r _ [8, 9, 10, 11, 12, 13, 14, 15, 16, 17, 18, 19, 20, 21, 22, 23, 24, 25, 26, 27, 28, 29, 30, 31, 32, 33, 34, 35, 36, 37, 38, 39, 40, 41, 42, 43, 44, 45, 46, 47, 48, 49, 50, 51, 52, 53, 54, 55, 56, 57, 58, 59, 60, 61, 62, 63, 64, 65, 66, 67, 68, 69, 70, 71, 72, 73, 74, 75, 76, 77, 78, 79, 80, 81, 82, 83, 84, 85, 86, 87, 88, 89, 90, 91, 92, 93, 94, 95, 96, 97, 98, 99, 100, 101, 102, 907, 908, 909, 910, 911, 912, 850, 851, 852, 853, 854, 855, 856, 857, 858, 913, 914, 915, 916, 917, 918, 919, 920, 921, 922, 923, 924, 925, 926, 927, 928, 929, 930, 931, 932, 933, 934, 935, 936] (by decide +kernel) (by decide +kernel)
set_option maxRecDepth 20000 in
theorem gL_law_X9_init : GoodIn wsL_law (wsX9_init) := ggL_law_X9_init
set_option maxRecDepth 20000 in
theorem ggL_law_X10_init : GoodIn wsL_law wsX10_init := goodIn_r _ [105, 106, 10, 11, 42, 107, 108, 109, 110, 111, 112, 113, 114, 115, 116, 117, 118, 119, 120, 121, 122, 123, 124, 125, 126, 127, 128, 129, 130, 131, 132, 133, 134, 135, 136, 137, 859, 860, 861, 862, 863, 864, 865, 866, 867, 868, 869, 870, 871, 872, 873, 874, 875, 876, 877, 878, 879, 880, 881, 882, 883, 884, 885, 886, 887, 888, 889, 890, 891, 892, 893, 894, 895, 896, 897, 898, 899, 900, 901, 902, 903, 904, 905, 906] (by decide +kernel) (by decide +kernel)
set_option maxRecDepth 20000 in
theorem gL_law_X10_init : GoodIn wsL_law (wsX10_init) := ggL_law_X10_init
set_option maxRecDepth 20000 in
theorem ggL_law_X9_letter : GoodIn wsL_law wsX9_letter := goodIn_r _ [141, 15, 142, 143, 2, 144, 145, 146, 147, 14, 148, 149, 43, 850, 851, 852, 853, 854, 855, 856, 857, 858, 907, 908, 909, 910, 911, 912] (by decide +kernel) (by decide +kernel)
set_option maxRecDepth 20000 in
theorem gL_law_X9_letter : GoodIn wsL_law (wsV RL 13 RX9 yX9_letter wsX9_letter) := goodIn_app (goodIn_of _ (by decide +kernel)) ggL_law_X9_letter
set_option maxRecDepth 20000 in
theorem ggL_law_X10_letter : GoodIn wsL_law wsX10_letter := goodIn_r _ [153, 154, 119, 155, 156, 5, 157, 859, 860, 861, 862, 863, 864, 865, 866, 867, 868, 869, 870, 871, 872, 873, 874, 875, 876, 877, 878, 879, 880, 881, 882, 883, 884, 885, 886, 887, 888, 889, 890, 891, 892, 893, 894, 895, 896, 897, 898, 899, 900, 901, 902, 903, 904, 905, 906] (by decide +kernel) (by decide +kernel)
set_option maxRecDepth 20000 in
theorem gL_law_X10_letter : GoodIn wsL_law (wsV RL 17 RX10 yX10_letter wsX10_letter) := goodIn_app (goodIn_of _ (by decide +kernel)) ggL_law_X10_letter
set_option maxRecDepth 20000 in
theorem ggL_law_X9_blank : GoodIn wsL_law wsX9_blank := goodIn_r _ [161, 15, 850, 851, 852, 853, 854, 855, 856, 857, 858, 907, 908, 909, 910, 911, 912] (by decide +kernel) (by decide +kernel)
set_option maxRecDepth 20000 in
theorem gL_law_X9_blank : GoodIn wsL_law (wsV RL 18 RX9 yX9_blank wsX9_blank) := goodIn_app (goodIn_of _ (by decide +kernel)) ggL_law_X9_blank
set_option maxRecDepth 20000 in
theorem ggL_law_X10_blank : GoodIn wsL_law wsX10_blank := goodIn_r _ [165, 154, 859, 860, 861, 862, 863, 864, 865, 866, 867, 868, 869, 870, 871, 872, 873, 874, 875, 876, 877, 878, 879, 880, 881, 882, 883, 884, 885, 886, 887, 888, 889, 890, 891, 892, 893, 894, 895, 896, 897, 898, 899, 900, 901, 902, 903, 904, 905, 906] (by decide +kernel) (by decide +kernel)
set_option maxRecDepth 20000 in
theorem gL_law_X10_blank : GoodIn wsL_law (wsV RL 22 RX10 yX10_blank wsX10_blank) := goodIn_app (goodIn_of _ (by decide +kernel)) ggL_law_X10_blank
set_option maxRecDepth 20000 in
theorem ggL_law_X9_fault : GoodIn wsL_law wsX9_fault := goodIn_r _ [169, 15, 170, 171, 172, 14, 173, 45, 47, 174, 149, 43, 175, 176, 177, 178, 179, 180, 181, 182, 183, 184, 185, 27, 186, 57, 53, 187, 188, 189, 56, 190, 191, 192, 193, 194, 195, 196, 197, 198, 199, 200, 201, 202, 203, 204, 205, 206, 207, 208, 209, 210, 2, 211, 142, 143, 144, 212, 213, 214, 215, 216, 217, 218, 219, 220, 221, 61, 222, 223, 224, 225, 226, 227, 228, 229, 230, 231, 232, 233, 234, 235, 236, 18, 237, 238, 65, 66, 239, 240, 241, 242, 850, 851, 852, 853, 854, 855, 856, 857, 858, 907, 908, 909, 910, 911, 912, 920, 921, 922, 913, 914, 915, 927, 928, 929] (by decide +kernel) (by decide +kernel)
set_option maxRecDepth 20000 in
theorem gL_law_X9_fault : GoodIn wsL_law (wsV RL 23 RX9 yX9_fault wsX9_fault) := goodIn_app (goodIn_of _ (by decide +kernel)) ggL_law_X9_fault
set_option maxRecDepth 20000 in
theorem ggL_law_X10_fault : GoodIn wsL_law wsX10_fault := goodIn_r _ [246, 247, 248, 249, 5, 250, 251, 252, 253, 254, 255, 256, 257, 258, 120, 259, 260, 261, 262, 154, 119, 263, 264, 265, 266, 267, 268, 269, 122, 121, 270, 271, 272, 273, 155, 156, 157, 274, 275, 276, 277, 278, 279, 280, 281, 282, 283, 284, 285, 286, 287, 288, 289, 123, 124, 859, 860, 861, 862, 863, 864, 865, 866, 867, 868, 869, 870, 871, 872, 873, 874, 875, 876, 877, 878, 879, 880, 881, 882, 883, 884, 885, 886, 887, 888, 889, 890, 891, 892, 893, 894, 895, 896, 897, 898, 899, 900, 901, 902, 903, 904, 905, 906] (by decide +kernel) (by decide +kernel)
set_option maxRecDepth 20000 in
theorem gL_law_X10_fault : GoodIn wsL_law (wsV RL 26 RX10 yX10_fault wsX10_fault) := goodIn_app (goodIn_of _ (by decide +kernel)) ggL_law_X10_fault
set_option maxRecDepth 20000 in
theorem ggL_law_X9_wall : GoodIn wsL_law wsX9_wall := goodIn_r _ [293, 15, 23, 19, 37, 38, 170, 171, 172, 14, 173, 45, 47, 174, 149, 43, 175, 176, 177, 178, 179, 180, 181, 182, 183, 184, 185, 27, 186, 57, 53, 187, 188, 189, 56, 190, 191, 192, 193, 194, 195, 196, 197, 198, 199, 200, 201, 202, 203, 204, 205, 206, 207, 208, 209, 210, 2, 211, 142, 143, 144, 212, 213, 214, 215, 216, 217, 218, 219, 220, 221, 61, 222, 223, 224, 225, 226, 227, 228, 229, 230, 231, 232, 233, 234, 235, 236, 18, 237, 238, 65, 66, 239, 240, 241, 242, 294, 295, 296, 297, 298, 299, 300, 22, 301, 71, 75, 79, 302, 303, 304, 305, 306, 307, 308, 309, 310, 311, 312, 313, 314, 850, 851, 852, 853, 854, 855, 856, 857, 858, 907, 908, 909, 910, 911, 912, 916, 917, 918, 919, 920, 921, 922, 913, 914, 915, 927, 928, 929, 930, 931, 932, 933, 934, 935, 936] (by decide +kernel) (by decide +kernel)
set_option maxRecDepth 20000 in
theorem gL_law_X9_wall : GoodIn wsL_law (wsV RL 27 RX9 yX9_wall wsX9_wall) := goodIn_app (goodIn_of _ (by decide +kernel)) ggL_law_X9_wall
set_option maxRecDepth 20000 in
theorem ggL_law_X10_wall : GoodIn wsL_law wsX10_wall := goodIn_r _ [318, 251, 253, 319, 107, 120, 109, 122, 108, 121, 254, 320, 110, 123, 111, 124, 321, 322, 323, 324, 154, 247, 248, 249, 5, 250, 252, 255, 256, 257, 258, 259, 260, 261, 262, 119, 263, 264, 265, 266, 267, 268, 269, 270, 271, 272, 273, 155, 156, 157, 274, 275, 276, 277, 278, 279, 280, 281, 282, 283, 284, 285, 286, 287, 288, 289, 859, 860, 861, 862, 863, 864, 865, 866, 867, 868, 869, 870, 871, 872, 873, 874, 875, 876, 877, 878, 879, 880, 881, 882, 883, 884, 885, 886, 887, 888, 889, 890, 891, 892, 893, 894, 895, 896, 897, 898, 899, 900, 901, 902, 903, 904, 905, 906] (by decide +kernel) (by decide +kernel)
set_option maxRecDepth 20000 in
theorem gL_law_X10_wall : GoodIn wsL_law (wsV RL 30 RX10 yX10_wall wsX10_wall) := goodIn_app (goodIn_of _ (by decide +kernel)) ggL_law_X10_wall
set_option maxRecDepth 20000 in
theorem ggL_law_X9_witness : GoodIn wsL_law wsX9_witness := goodIn_r _ [328, 23, 329, 330, 331, 2, 332, 142, 143, 144, 333, 334, 335, 56, 336, 192, 61, 337, 338, 339, 78, 340, 341, 90, 91, 342, 343, 344, 345, 346, 202, 203, 204, 347, 348, 349, 350, 351, 352, 353, 354, 355, 356, 357, 27, 358, 57, 359, 360, 361, 362, 53, 363, 364, 365, 366, 850, 851, 852, 853, 854, 855, 856, 857, 858, 916, 917, 918, 919, 920, 921, 922, 927, 928, 929, 934, 935, 936] (by decide +kernel) (by decide +kernel)
set_option maxRecDepth 20000 in
theorem gL_law_X9_witness : GoodIn wsL_law (wsV RL 31 RX9 yX9_witness wsX9_witness) := goodIn_app (goodIn_of _ (by decide +kernel)) ggL_law_X9_witness
set_option maxRecDepth 20000 in
theorem ggL_law_X10_witness : GoodIn wsL_law wsX10_witness := goodIn_r _ [370, 371, 372, 373, 5, 374, 319, 155, 156, 157, 375, 376, 377, 378, 107, 109, 108, 379, 380, 381, 382, 324, 115, 116, 117, 383, 384, 385, 386, 387, 388, 389, 390, 391, 392, 393, 394, 395, 396, 397, 398, 399, 400, 401, 402, 403, 404, 405, 406, 407, 408, 409, 410, 411, 412, 859, 860, 861, 862, 863, 864, 865, 866, 867, 868, 869, 870, 871, 872, 873, 874, 875, 876, 877, 878, 879, 880, 881, 882, 883, 884, 885, 886, 887, 888, 889, 890, 891, 892, 893, 894, 895, 896, 897, 898, 899, 900, 901, 902, 903, 904, 905, 906] (by decide +kernel) (by decide +kernel)
set_option maxRecDepth 20000 in
theorem gL_law_X10_witness : GoodIn wsL_law (wsV RL 35 RX10 yX10_witness wsX10_witness) := goodIn_app (goodIn_of _ (by decide +kernel)) ggL_law_X10_witness
set_option maxRecDepth 20000 in
theorem ggL_law_X9_as : GoodIn wsL_law wsX9_as := goodIn_r _ [416, 23, 329, 330, 331, 2, 332, 142, 143, 144, 417, 418, 419, 56, 420, 191, 850, 851, 852, 853, 854, 855, 856, 857, 858, 916, 917, 918, 919, 920, 921, 922, 927, 928, 929] (by decide +kernel) (by decide +kernel)
set_option maxRecDepth 20000 in
theorem gL_law_X9_as : GoodIn wsL_law (wsV RL 36 RX9 yX9_as wsX9_as) := goodIn_app (goodIn_of _ (by decide +kernel)) ggL_law_X9_as
set_option maxRecDepth 20000 in
theorem ggL_law_X10_as : GoodIn wsL_law wsX10_as := goodIn_r _ [424, 107, 371, 372, 373, 5, 374, 319, 155, 156, 157, 859, 860, 861, 862, 863, 864, 865, 866, 867, 868, 869, 870, 871, 872, 873, 874, 875, 876, 877, 878, 879, 880, 881, 882, 883, 884, 885, 886, 887, 888, 889, 890, 891, 892, 893, 894, 895, 896, 897, 898, 899, 900, 901, 902, 903, 904, 905, 906] (by decide +kernel) (by decide +kernel)
set_option maxRecDepth 20000 in
theorem gL_law_X10_as : GoodIn wsL_law (wsV RL 39 RX10 yX10_as wsX10_as) := goodIn_app (goodIn_of _ (by decide +kernel)) ggL_law_X10_as
set_option maxRecDepth 20000 in
theorem ggL_law_X9_tells : GoodIn wsL_law wsX9_tells := goodIn_r _ [428, 23, 329, 330, 331, 2, 332, 142, 143, 144, 429, 210, 211, 430, 364, 365, 56, 366, 192, 61, 850, 851, 852, 853, 854, 855, 856, 857, 858, 916, 917, 918, 919, 920, 921, 922, 927, 928, 929] (by decide +kernel) (by decide +kernel)
set_option maxRecDepth 20000 in
theorem gL_law_X9_tells : GoodIn wsL_law (wsV RL 40 RX9 yX9_tells wsX9_tells) := goodIn_app (goodIn_of _ (by decide +kernel)) ggL_law_X9_tells
set_option maxRecDepth 20000 in
theorem ggL_law_X10_tells : GoodIn wsL_law wsX10_tells := goodIn_r _ [434, 371, 372, 373, 5, 374, 319, 155, 156, 157, 409, 410, 411, 412, 109, 108, 859, 860, 861, 862, 863, 864, 865, 866, 867, 868, 869, 870, 871, 872, 873, 874, 875, 876, 877, 878, 879, 880, 881, 882, 883, 884, 885, 886, 887, 888, 889, 890, 891, 892, 893, 894, 895, 896, 897, 898, 899, 900, 901, 902, 903, 904, 905, 906] (by decide +kernel) (by decide +kernel)
set_option maxRecDepth 20000 in
theorem gL_law_X10_tells : GoodIn wsL_law (wsV RL 43 RX10 yX10_tells wsX10_tells) := goodIn_app (goodIn_of _ (by decide +kernel)) ggL_law_X10_tells
set_option maxRecDepth 20000 in
theorem ggL_law_X9_said : GoodIn wsL_law wsX9_said := goodIn_r _ [438, 23, 429, 210, 2, 211, 142, 143, 144, 439, 440, 441, 442, 443, 444, 445, 27, 446, 57, 447, 448, 449, 450, 54, 451, 452, 453, 454, 53, 363, 364, 365, 56, 366, 192, 61, 850, 851, 852, 853, 854, 855, 856, 857, 858, 916, 917, 918, 919, 920, 921, 922, 927, 928, 929] (by decide +kernel) (by decide +kernel)
set_option maxRecDepth 20000 in
theorem gL_law_X9_said : GoodIn wsL_law (wsV RL 44 RX9 yX9_said wsX9_said) := goodIn_app (goodIn_of _ (by decide +kernel)) ggL_law_X9_said
set_option maxRecDepth 20000 in
theorem ggL_law_X10_said : GoodIn wsL_law wsX10_said := goodIn_r _ [458, 323, 155, 156, 5, 157, 459, 460, 461, 462, 319, 463, 464, 465, 466, 391, 392, 393, 409, 410, 411, 412, 109, 108, 859, 860, 861, 862, 863, 864, 865, 866, 867, 868, 869, 870, 871, 872, 873, 874, 875, 876, 877, 878, 879, 880, 881, 882, 883, 884, 885, 886, 887, 888, 889, 890, 891, 892, 893, 894, 895, 896, 897, 898, 899, 900, 901, 902, 903, 904, 905, 906] (by decide +kernel) (by decide +kernel)
set_option maxRecDepth 20000 in
theorem gL_law_X10_said : GoodIn wsL_law (wsV RL 47 RX10 yX10_said wsX10_said) := goodIn_app (goodIn_of _ (by decide +kernel)) ggL_law_X10_said
set_option maxRecDepth 20000 in
theorem ggL_law_X9_having : GoodIn wsL_law wsX9_having := goodIn_r _ [470, 23, 429, 210, 2, 211, 142, 143, 144, 471, 216, 217, 439, 440, 441, 442, 472, 473, 474, 27, 475, 57, 53, 476, 219, 220, 56, 221, 192, 61, 850, 851, 852, 853, 854, 855, 856, 857, 858, 916, 917, 918, 919, 920, 921, 922, 927, 928, 929] (by decide +kernel) (by decide +kernel)
set_option maxRecDepth 20000 in
theorem gL_law_X9_having : GoodIn wsL_law (wsV RL 48 RX9 yX9_having wsX9_having) := goodIn_app (goodIn_of _ (by decide +kernel)) ggL_law_X9_having
set_option maxRecDepth 20000 in
theorem ggL_law_X10_having : GoodIn wsL_law wsX10_having := goodIn_r _ [480, 323, 319, 481, 482, 5, 483, 155, 156, 157, 484, 485, 486, 487, 109, 108, 859, 860, 861, 862, 863, 864, 865, 866, 867, 868, 869, 870, 871, 872, 873, 874, 875, 876, 877, 878, 879, 880, 881, 882, 883, 884, 885, 886, 887, 888, 889, 890, 891, 892, 893, 894, 895, 896, 897, 898, 899, 900, 901, 902, 903, 904, 905, 906] (by decide +kernel) (by decide +kernel)
set_option maxRecDepth 20000 in
theorem gL_law_X10_having : GoodIn wsL_law (wsV RL 51 RX10 yX10_having wsX10_having) := goodIn_app (goodIn_of _ (by decide +kernel)) ggL_law_X10_having
set_option maxRecDepth 20000 in
theorem ggL_law_X9_show : GoodIn wsL_law wsX9_show := goodIn_r _ [491, 23, 329, 330, 331, 2, 332, 142, 143, 144, 429, 210, 211, 471, 216, 217, 492, 493, 494, 56, 495, 191, 192, 226, 227, 228, 229, 61, 496, 364, 365, 366, 497, 223, 224, 225, 850, 851, 852, 853, 854, 855, 856, 857, 858, 916, 917, 918, 919, 920, 921, 922, 927, 928, 929] (by decide +kernel) (by decide +kernel)
set_option maxRecDepth 20000 in
theorem gL_law_X9_show : GoodIn wsL_law (wsV RL 52 RX9 yX9_show wsX9_show) := goodIn_app (goodIn_of _ (by decide +kernel)) ggL_law_X9_show
set_option maxRecDepth 20000 in
theorem ggL_law_X10_show : GoodIn wsL_law wsX10_show := goodIn_r _ [501, 322, 371, 372, 373, 5, 374, 319, 155, 156, 157, 481, 482, 483, 502, 503, 504, 505, 107, 109, 108, 405, 406, 407, 408, 409, 410, 411, 412, 506, 507, 508, 509, 510, 511, 859, 860, 861, 862, 863, 864, 865, 866, 867, 868, 869, 870, 871, 872, 873, 874, 875, 876, 877, 878, 879, 880, 881, 882, 883, 884, 885, 886, 887, 888, 889, 890, 891, 892, 893, 894, 895, 896, 897, 898, 899, 900, 901, 902, 903, 904, 905, 906] (by decide +kernel) (by decide +kernel)
set_option maxRecDepth 20000 in
theorem gL_law_X10_show : GoodIn wsL_law (wsV RL 56 RX10 yX10_show wsX10_show) := goodIn_app (goodIn_of _ (by decide +kernel)) ggL_law_X10_show
set_option maxRecDepth 20000 in
theorem ggL_law_X9_be : GoodIn wsL_law wsX9_be := goodIn_r _ [515, 23, 329, 330, 331, 2, 332, 142, 143, 144, 850, 851, 852, 853, 854, 855, 856, 857, 858, 916, 917, 918, 919, 920, 921, 922, 927, 928, 929] (by decide +kernel) (by decide +kernel)
set_option maxRecDepth 20000 in
theorem gL_law_X9_be : GoodIn wsL_law (wsV RL 57 RX9 yX9_be wsX9_be) := goodIn_app (goodIn_of _ (by decide +kernel)) ggL_law_X9_be
set_option maxRecDepth 20000 in
theorem ggL_law_X10_be : GoodIn wsL_law wsX10_be := goodIn_r _ [519, 107, 371, 372, 373, 5, 374, 319, 155, 156, 157, 859, 860, 861, 862, 863, 864, 865, 866, 867, 868, 869, 870, 871, 872, 873, 874, 875, 876, 877, 878, 879, 880, 881, 882, 883, 884, 885, 886, 887, 888, 889, 890, 891, 892, 893, 894, 895, 896, 897, 898, 899, 900, 901, 902, 903, 904, 905, 906] (by decide +kernel) (by decide +kernel)
set_option maxRecDepth 20000 in
theorem gL_law_X10_be : GoodIn wsL_law (wsV RL 60 RX10 yX10_be wsX10_be) := goodIn_app (goodIn_of _ (by decide +kernel)) ggL_law_X10_be
set_option maxRecDepth 20000 in
theorem ggL_law_X9_slip : GoodIn wsL_law wsX9_slip := goodIn_r _ [523, 23, 142, 143, 2, 144, 329, 330, 331, 332, 429, 210, 211, 471, 216, 217, 524, 525, 526, 74, 527, 528, 84, 85, 86, 850, 851, 852, 853, 854, 855, 856, 857, 858, 916, 917, 918, 919, 930, 931, 932, 933, 920, 921, 922] (by decide +kernel) (by decide +kernel)
set_option maxRecDepth 20000 in
theorem gL_law_X9_slip : GoodIn wsL_law (wsV RL 61 RX9 yX9_slip wsX9_slip) := goodIn_app (goodIn_of _ (by decide +kernel)) ggL_law_X9_slip
set_option maxRecDepth 20000 in
theorem ggL_law_X10_slip : GoodIn wsL_law wsX10_slip := goodIn_r _ [532, 321, 112, 113, 114, 155, 156, 5, 157, 371, 372, 373, 374, 319, 481, 482, 483, 859, 860, 861, 862, 863, 864, 865, 866, 867, 868, 869, 870, 871, 872, 873, 874, 875, 876, 877, 878, 879, 880, 881, 882, 883, 884, 885, 886, 887, 888, 889, 890, 891, 892, 893, 894, 895, 896, 897, 898, 899, 900, 901, 902, 903, 904, 905, 906] (by decide +kernel) (by decide +kernel)
set_option maxRecDepth 20000 in
theorem gL_law_X10_slip : GoodIn wsL_law (wsV RL 65 RX10 yX10_slip wsX10_slip) := goodIn_app (goodIn_of _ (by decide +kernel)) ggL_law_X10_slip
set_option maxRecDepth 20000 in
theorem ggL_law_X9_tear : GoodIn wsL_law wsX9_tear := goodIn_r _ [536, 23, 850, 851, 852, 853, 854, 855, 856, 857, 858, 916, 917, 918, 919, 930, 931, 932, 933] (by decide +kernel) (by decide +kernel)
set_option maxRecDepth 20000 in
theorem gL_law_X9_tear : GoodIn wsL_law (wsV RL 66 RX9 yX9_tear wsX9_tear) := goodIn_app (goodIn_of _ (by decide +kernel)) ggL_law_X9_tear
set_option maxRecDepth 20000 in
theorem ggL_law_X10_tear : GoodIn wsL_law wsX10_tear := goodIn_r _ [540, 321, 859, 860, 861, 862, 863, 864, 865, 866, 867, 868, 869, 870, 871, 872, 873, 874, 875, 876, 877, 878, 879, 880, 881, 882, 883, 884, 885, 886, 887, 888, 889, 890, 891, 892, 893, 894, 895, 896, 897, 898, 899, 900, 901, 902, 903, 904, 905, 906] (by decide +kernel) (by decide +kernel)
set_option maxRecDepth 20000 in
theorem gL_law_X10_tear : GoodIn wsL_law (wsV RL 69 RX10 yX10_tear wsX10_tear) := goodIn_app (goodIn_of _ (by decide +kernel)) ggL_law_X10_tear
set_option maxRecDepth 20000 in
theorem ggL_law_X9_term : GoodIn wsL_law wsX9_term := goodIn_r _ [544, 28, 23, 32, 19, 142, 143, 2, 144, 439, 440, 441, 442, 545, 304, 305, 27, 306, 57, 53, 307, 308, 309, 56, 310, 191, 192, 61, 546, 547, 548, 31, 549, 96, 97, 550, 551, 552, 553, 554, 444, 445, 446, 555, 448, 449, 450, 54, 451, 452, 453, 454, 363, 364, 365, 366, 556, 557, 558, 74, 559, 528, 84, 85, 86, 560, 493, 494, 495, 226, 227, 228, 229, 496, 497, 223, 224, 225, 561, 562, 563, 564, 565, 202, 203, 204, 566, 567, 568, 569, 570, 571, 572, 573, 574, 575, 576, 577, 578, 579, 580, 581, 850, 851, 852, 853, 854, 855, 856, 857, 858, 916, 917, 918, 919, 920, 921, 922, 927, 928, 929, 923, 924, 913, 914, 915, 930, 931, 932, 933] (by decide +kernel) (by decide +kernel)
set_option maxRecDepth 20000 in
theorem gL_law_X9_term : GoodIn wsL_law (wsV RL 70 RX9 yX9_term wsX9_term) := goodIn_app (goodIn_of _ (by decide +kernel)) ggL_law_X9_term
set_option maxRecDepth 20000 in
theorem ggL_law_X10_term : GoodIn wsL_law wsX10_term := goodIn_r _ [585, 323, 155, 156, 5, 157, 586, 587, 588, 589, 128, 590, 591, 592, 593, 127, 320, 111, 110, 321, 112, 113, 114, 594, 595, 596, 597, 125, 108, 126, 109, 459, 460, 461, 462, 319, 463, 464, 465, 466, 391, 392, 393, 409, 410, 411, 412, 502, 503, 504, 505, 107, 405, 406, 407, 408, 506, 507, 508, 509, 510, 511, 598, 599, 600, 601, 602, 603, 604, 605, 606, 607, 608, 609, 390, 859, 860, 861, 862, 863, 864, 865, 866, 867, 868, 869, 870, 871, 872, 873, 874, 875, 876, 877, 878, 879, 880, 881, 882, 883, 884, 885, 886, 887, 888, 889, 890, 891, 892, 893, 894, 895, 896, 897, 898, 899, 900, 901, 902, 903, 904, 905, 906] (by decide +kernel) (by decide +kernel)
set_option maxRecDepth 20000 in
theorem gL_law_X10_term : GoodIn wsL_law (wsV RL 73 RX10 yX10_term wsX10_term) := goodIn_app (goodIn_of _ (by decide +kernel)) ggL_law_X10_term
set_option maxRecDepth 20000 in
theorem ggL_law_X9_keep : GoodIn wsL_law wsX9_keep := goodIn_r _ [613, 23, 142, 143, 2, 144, 439, 440, 441, 442, 614, 615, 616, 27, 617, 57, 618, 444, 445, 446, 619, 349, 350, 351, 352, 353, 354, 620, 621, 622, 623, 624, 448, 449, 450, 54, 451, 452, 453, 454, 53, 363, 364, 365, 56, 366, 192, 61, 625, 850, 851, 852, 853, 854, 855, 856, 857, 858, 916, 917, 918, 919, 920, 921, 922, 927, 928, 929] (by decide +kernel) (by decide +kernel)
set_option maxRecDepth 20000 in
theorem gL_law_X9_keep : GoodIn wsL_law (wsV RL 74 RX9 yX9_keep wsX9_keep) := goodIn_app (goodIn_of _ (by decide +kernel)) ggL_law_X9_keep
set_option maxRecDepth 20000 in
theorem ggL_law_X10_keep : GoodIn wsL_law wsX10_keep := goodIn_r _ [629, 323, 155, 156, 5, 157, 630, 631, 632, 633, 459, 460, 461, 462, 319, 394, 395, 396, 634, 635, 636, 637, 463, 464, 465, 466, 391, 392, 393, 409, 410, 411, 412, 109, 108, 859, 860, 861, 862, 863, 864, 865, 866, 867, 868, 869, 870, 871, 872, 873, 874, 875, 876, 877, 878, 879, 880, 881, 882, 883, 884, 885, 886, 887, 888, 889, 890, 891, 892, 893, 894, 895, 896, 897, 898, 899, 900, 901, 902, 903, 904, 905, 906] (by decide +kernel) (by decide +kernel)
set_option maxRecDepth 20000 in
theorem gL_law_X10_keep : GoodIn wsL_law (wsV RL 77 RX10 yX10_keep wsX10_keep) := goodIn_app (goodIn_of _ (by decide +kernel)) ggL_law_X10_keep
set_option maxRecDepth 20000 in
theorem ggL_law_X9_peace : GoodIn wsL_law wsX9_peace := goodIn_r _ [641, 23, 142, 143, 2, 144, 439, 440, 441, 442, 642, 643, 644, 27, 645, 57, 618, 444, 445, 446, 619, 349, 350, 351, 352, 353, 354, 646, 647, 648, 649, 359, 360, 361, 362, 53, 363, 364, 365, 56, 366, 192, 61, 625, 850, 851, 852, 853, 854, 855, 856, 857, 858, 916, 917, 918, 919, 920, 921, 922, 927, 928, 929] (by decide +kernel) (by decide +kernel)
set_option maxRecDepth 20000 in
theorem gL_law_X9_peace : GoodIn wsL_law (wsV RL 78 RX9 yX9_peace wsX9_peace) := goodIn_app (goodIn_of _ (by decide +kernel)) ggL_law_X9_peace
set_option maxRecDepth 20000 in
theorem ggL_law_X10_peace : GoodIn wsL_law wsX10_peace := goodIn_r _ [653, 323, 155, 156, 5, 157, 654, 655, 656, 657, 459, 460, 461, 462, 319, 394, 395, 396, 658, 659, 660, 661, 391, 392, 393, 401, 402, 403, 404, 405, 406, 407, 408, 409, 410, 411, 412, 109, 108, 859, 860, 861, 862, 863, 864, 865, 866, 867, 868, 869, 870, 871, 872, 873, 874, 875, 876, 877, 878, 879, 880, 881, 882, 883, 884, 885, 886, 887, 888, 889, 890, 891, 892, 893, 894, 895, 896, 897, 898, 899, 900, 901, 902, 903, 904, 905, 906] (by decide +kernel) (by decide +kernel)
set_option maxRecDepth 20000 in
theorem gL_law_X10_peace : GoodIn wsL_law (wsV RL 81 RX10 yX10_peace wsX10_peace) := goodIn_app (goodIn_of _ (by decide +kernel)) ggL_law_X10_peace
set_option maxRecDepth 20000 in
theorem ggL_law_X9_worlds : GoodIn wsL_law wsX9_worlds := goodIn_r _ [665, 36, 23, 142, 143, 2, 144, 439, 440, 441, 442, 666, 667, 668, 35, 669, 101, 670, 671, 672, 673, 102, 674, 675, 676, 27, 677, 57, 53, 678, 679, 680, 56, 681, 192, 61, 682, 349, 350, 351, 352, 353, 354, 850, 851, 852, 853, 854, 855, 856, 857, 858, 916, 917, 918, 919, 920, 921, 922, 925, 926, 927, 928, 929] (by decide +kernel) (by decide +kernel)
set_option maxRecDepth 20000 in
theorem gL_law_X9_worlds : GoodIn wsL_law (wsV RL 82 RX9 yX9_worlds wsX9_worlds) := goodIn_app (goodIn_of _ (by decide +kernel)) ggL_law_X9_worlds
set_option maxRecDepth 20000 in
theorem ggL_law_X10_worlds : GoodIn wsL_law wsX10_worlds := goodIn_r _ [686, 323, 155, 156, 5, 157, 687, 688, 689, 690, 691, 692, 693, 694, 319, 695, 696, 697, 698, 109, 108, 859, 860, 861, 862, 863, 864, 865, 866, 867, 868, 869, 870, 871, 872, 873, 874, 875, 876, 877, 878, 879, 880, 881, 882, 883, 884, 885, 886, 887, 888, 889, 890, 891, 892, 893, 894, 895, 896, 897, 898, 899, 900, 901, 902, 903, 904, 905, 906] (by decide +kernel) (by decide +kernel)
set_option maxRecDepth 20000 in
theorem gL_law_X10_worlds : GoodIn wsL_law (wsV RL 85 RX10 yX10_worlds wsX10_worlds) := goodIn_app (goodIn_of _ (by decide +kernel)) ggL_law_X10_worlds
set_option maxRecDepth 20000 in
theorem ggL_law_X9_odds : GoodIn wsL_law wsX9_odds := goodIn_r _ [702, 36, 23, 429, 210, 2, 211, 142, 143, 144, 471, 216, 217, 439, 440, 441, 442, 666, 667, 668, 35, 669, 101, 670, 671, 672, 673, 102, 674, 675, 676, 27, 677, 57, 53, 678, 679, 680, 56, 681, 192, 61, 682, 349, 350, 351, 352, 353, 354, 703, 704, 705, 850, 851, 852, 853, 854, 855, 856, 857, 858, 916, 917, 918, 919, 920, 921, 922, 925, 926, 927, 928, 929] (by decide +kernel) (by decide +kernel)
set_option maxRecDepth 20000 in
theorem gL_law_X9_odds : GoodIn wsL_law (wsV RL 86 RX9 yX9_odds wsX9_odds) := goodIn_app (goodIn_of _ (by decide +kernel)) ggL_law_X9_odds
set_option maxRecDepth 20000 in
theorem ggL_law_X10_odds : GoodIn wsL_law wsX10_odds := goodIn_r _ [709, 323, 481, 482, 5, 483, 155, 156, 157, 710, 711, 712, 713, 691, 692, 693, 694, 319, 695, 696, 697, 698, 109, 108, 687, 688, 689, 690, 714, 715, 716, 859, 860, 861, 862, 863, 864, 865, 866, 867, 868, 869, 870, 871, 872, 873, 874, 875, 876, 877, 878, 879, 880, 881, 882, 883, 884, 885, 886, 887, 888, 889, 890, 891, 892, 893, 894, 895, 896, 897, 898, 899, 900, 901, 902, 903, 904, 905, 906] (by decide +kernel) (by decide +kernel)
set_option maxRecDepth 20000 in
theorem gL_law_X10_odds : GoodIn wsL_law (wsV RL 89 RX10 yX10_odds wsX10_odds) := goodIn_app (goodIn_of _ (by decide +kernel)) ggL_law_X10_odds
set_option maxRecDepth 20000 in
theorem ggL_law_X9_see : GoodIn wsL_law wsX9_see := goodIn_r _ [720, 23, 329, 330, 331, 2, 332, 142, 143, 144, 721, 722, 723, 78, 724, 341, 90, 91, 850, 851, 852, 853, 854, 855, 856, 857, 858, 916, 917, 918, 919, 934, 935, 936, 920, 921, 922] (by decide +kernel) (by decide +kernel)
set_option maxRecDepth 20000 in
theorem gL_law_X9_see : GoodIn wsL_law (wsV RL 90 RX9 yX9_see wsX9_see) := goodIn_app (goodIn_of _ (by decide +kernel)) ggL_law_X9_see
set_option maxRecDepth 20000 in
theorem ggL_law_X10_see : GoodIn wsL_law wsX10_see := goodIn_r _ [728, 324, 115, 116, 117, 371, 372, 373, 5, 374, 319, 155, 156, 157, 859, 860, 861, 862, 863, 864, 865, 866, 867, 868, 869, 870, 871, 872, 873, 874, 875, 876, 877, 878, 879, 880, 881, 882, 883, 884, 885, 886, 887, 888, 889, 890, 891, 892, 893, 894, 895, 896, 897, 898, 899, 900, 901, 902, 903, 904, 905, 906] (by decide +kernel) (by decide +kernel)
set_option maxRecDepth 20000 in
theorem gL_law_X10_see : GoodIn wsL_law (wsV RL 94 RX10 yX10_see wsX10_see) := goodIn_app (goodIn_of _ (by decide +kernel)) ggL_law_X10_see
set_option maxRecDepth 20000 in
theorem ggL_law_X9_forget : GoodIn wsL_law wsX9_forget := goodIn_r _ [732, 23, 850, 851, 852, 853, 854, 855, 856, 857, 858, 916, 917, 918, 919, 934, 935, 936] (by decide +kernel) (by decide +kernel)
set_option maxRecDepth 20000 in
theorem gL_law_X9_forget : GoodIn wsL_law (wsV RL 95 RX9 yX9_forget wsX9_forget) := goodIn_app (goodIn_of _ (by decide +kernel)) ggL_law_X9_forget
set_option maxRecDepth 20000 in
theorem ggL_law_X10_forget : GoodIn wsL_law wsX10_forget := goodIn_r _ [736, 324, 859, 860, 861, 862, 863, 864, 865, 866, 867, 868, 869, 870, 871, 872, 873, 874, 875, 876, 877, 878, 879, 880, 881, 882, 883, 884, 885, 886, 887, 888, 889, 890, 891, 892, 893, 894, 895, 896, 897, 898, 899, 900, 901, 902, 903, 904, 905, 906] (by decide +kernel) (by decide +kernel)
set_option maxRecDepth 20000 in
theorem gL_law_X10_forget : GoodIn wsL_law (wsV RL 98 RX10 yX10_forget wsX10_forget) := goodIn_app (goodIn_of _ (by decide +kernel)) ggL_law_X10_forget
set_option maxRecDepth 20000 in
theorem ggL_law_X9_drawn : GoodIn wsL_law wsX9_drawn := goodIn_r _ [740, 28, 23, 142, 143, 2, 144, 439, 440, 441, 442, 545, 304, 305, 27, 306, 57, 53, 307, 308, 309, 56, 310, 191, 192, 61, 741, 742, 743, 744, 745, 746, 747, 748, 749, 492, 493, 494, 495, 226, 227, 228, 229, 496, 364, 365, 366, 497, 223, 224, 225, 443, 444, 445, 446, 750, 647, 648, 649, 359, 360, 361, 362, 363, 850, 851, 852, 853, 854, 855, 856, 857, 858, 916, 917, 918, 919, 920, 921, 922, 927, 928, 929] (by decide +kernel) (by decide +kernel)
set_option maxRecDepth 20000 in
theorem gL_law_X9_drawn : GoodIn wsL_law (wsV RL 99 RX9 yX9_drawn wsX9_drawn) := goodIn_app (goodIn_of _ (by decide +kernel)) ggL_law_X9_drawn
set_option maxRecDepth 20000 in
theorem ggL_law_X10_drawn : GoodIn wsL_law wsX10_drawn := goodIn_r _ [754, 323, 155, 156, 5, 157, 755, 756, 757, 758, 759, 319, 594, 595, 596, 597, 125, 108, 126, 109, 760, 761, 762, 763, 764, 765, 766, 767, 502, 503, 504, 505, 107, 405, 406, 407, 408, 409, 410, 411, 412, 506, 507, 508, 509, 510, 511, 459, 460, 461, 462, 658, 659, 660, 661, 391, 392, 393, 401, 402, 403, 404, 598, 599, 600, 601, 859, 860, 861, 862, 863, 864, 865, 866, 867, 868, 869, 870, 871, 872, 873, 874, 875, 876, 877, 878, 879, 880, 881, 882, 883, 884, 885, 886, 887, 888, 889, 890, 891, 892, 893, 894, 895, 896, 897, 898, 899, 900, 901, 902, 903, 904, 905, 906] (by decide +kernel) (by decide +kernel)
set_option maxRecDepth 20000 in
theorem gL_law_X10_drawn : GoodIn wsL_law (wsV RL 102 RX10 yX10_drawn wsX10_drawn) := goodIn_app (goodIn_of _ (by decide +kernel)) ggL_law_X10_drawn
set_option maxRecDepth 20000 in
theorem ggL_law_X9_image : GoodIn wsL_law wsX9_image := goodIn_r _ [771, 24, 23, 37, 439, 440, 441, 2, 442, 772, 773, 774, 22, 775, 71, 75, 79, 302, 303, 304, 305, 27, 306, 57, 53, 307, 308, 309, 56, 310, 191, 192, 61, 776, 777, 778, 74, 779, 528, 84, 85, 86, 780, 781, 782, 78, 783, 341, 90, 91, 850, 851, 852, 853, 854, 855, 856, 857, 858, 916, 917, 918, 919, 920, 921, 922, 927, 928, 929, 930, 931, 932, 933, 934, 935, 936] (by decide +kernel) (by decide +kernel)
set_option maxRecDepth 20000 in
theorem gL_law_X9_image : GoodIn wsL_law (wsV RL 103 RX9 yX9_image wsX9_image) := goodIn_app (goodIn_of _ (by decide +kernel)) ggL_law_X9_image
set_option maxRecDepth 20000 in
theorem ggL_law_X10_image : GoodIn wsL_law wsX10_image := goodIn_r _ [787, 323, 788, 789, 321, 790, 322, 791, 324, 792, 129, 107, 131, 109, 130, 108, 132, 112, 133, 113, 134, 114, 135, 115, 136, 116, 137, 117, 859, 860, 861, 862, 863, 864, 865, 866, 867, 868, 869, 870, 871, 872, 873, 874, 875, 876, 877, 878, 879, 880, 881, 882, 883, 884, 885, 886, 887, 888, 889, 890, 891, 892, 893, 894, 895, 896, 897, 898, 899, 900, 901, 902, 903, 904, 905, 906] (by decide +kernel) (by decide +kernel)
set_option maxRecDepth 20000 in
theorem gL_law_X10_image : GoodIn wsL_law (wsV RL 106 RX10 yX10_image wsX10_image) := goodIn_app (goodIn_of _ (by decide +kernel)) ggL_law_X10_image
set_option maxRecDepth 20000 in
theorem ggL_law_X9_restore : GoodIn wsL_law wsX9_restore := goodIn_r _ [796, 37, 23, 24, 772, 773, 774, 22, 775, 71, 75, 79, 302, 303, 304, 305, 27, 306, 57, 53, 307, 308, 309, 56, 310, 191, 192, 61, 776, 777, 778, 74, 779, 528, 84, 85, 86, 780, 781, 782, 78, 783, 341, 90, 91, 850, 851, 852, 853, 854, 855, 856, 857, 858, 916, 917, 918, 919, 920, 921, 922, 927, 928, 929, 930, 931, 932, 933, 934, 935, 936] (by decide +kernel) (by decide +kernel)
set_option maxRecDepth 20000 in
theorem gL_law_X9_restore : GoodIn wsL_law (wsV RL 107 RX9 yX9_restore wsX9_restore) := goodIn_app (goodIn_of _ (by decide +kernel)) ggL_law_X9_restore
set_option maxRecDepth 20000 in
theorem ggL_law_X10_restore : GoodIn wsL_law wsX10_restore := goodIn_r _ [800, 788, 789, 323, 790, 321, 791, 322, 792, 324, 107, 129, 109, 131, 108, 130, 112, 132, 113, 133, 114, 134, 115, 135, 116, 136, 117, 137, 859, 860, 861, 862, 863, 864, 865, 866, 867, 868, 869, 870, 871, 872, 873, 874, 875, 876, 877, 878, 879, 880, 881, 882, 883, 884, 885, 886, 887, 888, 889, 890, 891, 892, 893, 894, 895, 896, 897, 898, 899, 900, 901, 902, 903, 904, 905, 906] (by decide +kernel) (by decide +kernel)
set_option maxRecDepth 20000 in
theorem gL_law_X10_restore : GoodIn wsL_law (wsV RL 110 RX10 yX10_restore wsX10_restore) := goodIn_app (goodIn_of _ (by decide +kernel)) ggL_law_X10_restore
set_option maxRecDepth 20000 in
theorem ggL_law_X9_count : GoodIn wsL_law wsX9_count := goodIn_r _ [804, 23, 19, 15, 38, 805, 806, 807, 27, 808, 809, 473, 474, 475, 57, 53, 476, 219, 220, 56, 221, 192, 61, 443, 444, 445, 446, 750, 647, 648, 649, 359, 360, 361, 362, 363, 364, 365, 366, 850, 851, 852, 853, 854, 855, 856, 857, 858, 916, 917, 918, 919, 920, 921, 922, 913, 914, 915, 930, 931, 932, 933, 934, 935, 936, 907, 908, 909, 910, 911, 912, 927, 928, 929] (by decide +kernel) (by decide +kernel)
set_option maxRecDepth 20000 in
theorem gL_law_X9_count : GoodIn wsL_law (wsV RL 111 RX9 yX9_count wsX9_count) := goodIn_app (goodIn_of _ (by decide +kernel)) ggL_law_X9_count
set_option maxRecDepth 20000 in
theorem ggL_law_X10_count : GoodIn wsL_law wsX10_count := goodIn_r _ [813, 814, 815, 816, 5, 817, 319, 320, 321, 322, 324, 154, 323, 818, 819, 820, 821, 109, 108, 394, 395, 396, 459, 460, 461, 462, 658, 659, 660, 661, 391, 392, 393, 401, 402, 403, 404, 405, 406, 407, 408, 409, 410, 411, 412, 859, 860, 861, 862, 863, 864, 865, 866, 867, 868, 869, 870, 871, 872, 873, 874, 875, 876, 877, 878, 879, 880, 881, 882, 883, 884, 885, 886, 887, 888, 889, 890, 891, 892, 893, 894, 895, 896, 897, 898, 899, 900, 901, 902, 903, 904, 905, 906] (by decide +kernel) (by decide +kernel)
set_option maxRecDepth 20000 in
theorem gL_law_X10_count : GoodIn wsL_law (wsV RL 114 RX10 yX10_count wsX10_count) := goodIn_app (goodIn_of _ (by decide +kernel)) ggL_law_X10_count
set_option maxRecDepth 20000 in
theorem ggL_law_X9_digest : GoodIn wsL_law wsX9_digest := goodIn_r _ [825, 826, 23, 827, 15, 828, 326, 327, 2, 328, 329, 330, 331, 332, 142, 143, 144, 333, 334, 335, 56, 336, 192, 61, 337, 338, 339, 78, 340, 341, 90, 91, 342, 343, 344, 345, 346, 202, 203, 204, 347, 348, 349, 350, 351, 352, 353, 354, 355, 356, 357, 27, 358, 57, 359, 360, 361, 362, 53, 363, 364, 365, 366, 439, 440, 441, 442, 829, 436, 437, 438, 429, 210, 211, 443, 444, 445, 446, 447, 448, 449, 450, 54, 451, 452, 453, 454, 830, 542, 543, 544, 28, 32, 19, 545, 304, 305, 306, 307, 308, 309, 310, 191, 546, 547, 548, 31, 549, 96, 97, 550, 551, 552, 553, 554, 555, 556, 557, 558, 74, 559, 528, 84, 85, 86, 560, 493, 494, 495, 226, 227, 228, 229, 496, 497, 223, 224, 225, 561, 562, 563, 564, 565, 566, 567, 568, 569, 570, 571, 572, 573, 574, 575, 576, 577, 578, 579, 580, 581, 831, 611, 612, 613, 614, 615, 616, 617, 618, 619, 620, 621, 622, 623, 624, 625, 832, 639, 640, 641, 642, 643, 644, 645, 646, 647, 648, 649, 833, 663, 664, 665, 36, 666, 667, 668, 35, 669, 101, 670, 671, 672, 673, 102, 674, 675, 676, 677, 678, 679, 680, 681, 682, 834, 802, 803, 804, 38, 805, 806, 807, 808, 809, 473, 474, 475, 476, 219, 220, 221, 750, 850, 851, 852, 853, 854, 855, 856, 857, 858, 916, 917, 918, 919, 920, 921, 922, 907, 908, 909, 910, 911, 912, 927, 928, 929, 934, 935, 936, 923, 924, 913, 914, 915, 930, 931, 932, 933, 925, 926] (by decide +kernel) (by decide +kernel)
set_option maxRecDepth 20000 in
theorem gL_law_X9_digest : GoodIn wsL_law (wsV RL 115 RX9 yX9_digest wsX9_digest) := goodIn_app (goodIn_of _ (by decide +kernel)) ggL_law_X9_digest
set_option maxRecDepth 20000 in
theorem ggL_law_X10_digest : GoodIn wsL_law wsX10_digest := goodIn_r _ [838, 839, 840, 319, 323, 154, 119, 375, 376, 377, 5, 378, 107, 109, 108, 379, 380, 381, 382, 324, 115, 116, 117, 383, 384, 385, 386, 387, 388, 389, 390, 391, 392, 393, 394, 395, 396, 397, 398, 399, 400, 401, 402, 403, 404, 405, 406, 407, 408, 409, 410, 411, 412, 841, 842, 843, 844, 845, 846, 847, 848, 849, 459, 460, 461, 462, 463, 464, 465, 466, 586, 587, 588, 589, 128, 590, 591, 592, 593, 127, 320, 111, 110, 321, 112, 113, 114, 594, 595, 596, 597, 125, 126, 502, 503, 504, 505, 506, 507, 508, 509, 510, 511, 598, 599, 600, 601, 602, 603, 604, 605, 606, 607, 608, 609, 630, 631, 632, 633, 634, 635, 636, 637, 654, 655, 656, 657, 658, 659, 660, 661, 687, 688, 689, 690, 691, 692, 693, 694, 695, 696, 697, 698, 814, 815, 816, 817, 322, 818, 819, 820, 821, 859, 860, 861, 862, 863, 864, 865, 866, 867, 868, 869, 870, 871, 872, 873, 874, 875, 876, 877, 878, 879, 880, 881, 882, 883, 884, 885, 886, 887, 888, 889, 890, 891, 892, 893, 894, 895, 896, 897, 898, 899, 900, 901, 902, 903, 904, 905, 906] (by decide +kernel) (by decide +kernel)
set_option maxRecDepth 20000 in
theorem gL_law_X10_digest : GoodIn wsL_law (wsV RL 119 RX10 yX10_digest wsX10_digest) := goodIn_app (goodIn_of _ (by decide +kernel)) ggL_law_X10_digest
abbrev vwCl : List vw_C := [(RX0, TX0, 3), (RX1, TX1, 3), (RX2, TX2, 6), (RX3, TX3, 4), (RX4, TX4, 3), (RX5, TX5, 4), (RX6, TX6, 2), (RX7, TX7, 3), (RX8, TX8, 2), (RX9, TX9, 9), (RX10, TX10, 48)]

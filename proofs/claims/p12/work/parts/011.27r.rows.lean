set_option maxRecDepth 100000 in
theorem rofeed : mtab[0]? = some (yX12_feed, cX12_feed, 6, (some .int), 5) := rfl
set_option maxRecDepth 100000 in
theorem rolay : mtab[1]? = some (yX12_lay, cX12_lay, 3, none, 1) := rfl
set_option maxRecDepth 100000 in
theorem rocut : mtab[2]? = some (yX12_cut, cX12_cut, 2, (some .int), 1) := rfl
set_option maxRecDepth 100000 in
theorem roat : mtab[3]? = some (yX12_at, cX12_at, 2, (some .int), 1) := rfl
set_option maxRecDepth 100000 in
theorem roisLetter : mtab[4]? = some (yX12_isLetter, cX12_isLetter, 2, (some .boolean), 1) := rfl
set_option maxRecDepth 100000 in
theorem roisDigit : mtab[5]? = some (yX12_isDigit, cX12_isDigit, 2, (some .boolean), 1) := rfl
set_option maxRecDepth 100000 in
theorem rolexer : mtab[6]? = some (yX12_lexer, cX12_lexer, 4, none, 0) := rfl
set_option maxRecDepth 100000 in
theorem roword : mtab[7]? = some (yX12_word, cX12_word, 7, none, 1) := rfl
set_option maxRecDepth 100000 in
theorem rowordOf : mtab[8]? = some (yX12_wordOf, cX12_wordOf, 3, (some .int), 1) := rfl
set_option maxRecDepth 100000 in
theorem ronumber : mtab[9]? = some (yX12_number, cX12_number, 7, none, 1) := rfl
set_option maxRecDepth 100000 in
theorem rocharacter : mtab[10]? = some (yX12_character, cX12_character, 4, none, 1) := rfl
set_option maxRecDepth 100000 in
theorem rosign : mtab[11]? = some (yX12_sign, cX12_sign, 10, none, 1) := rfl
set_option maxRecDepth 100000 in
theorem rowrong : mtab[12]? = some (yX12_wrong, cX12_wrong, 3, (some .boolean), 2) := rfl
set_option maxRecDepth 100000 in
theorem rocant : mtab[13]? = some (yX12_cant, cX12_cant, 1, (some .boolean), 0) := rfl
set_option maxRecDepth 100000 in
theorem roisSign : mtab[14]? = some (yX12_isSign, cX12_isSign, 2, (some .boolean), 1) := rfl
set_option maxRecDepth 100000 in
theorem roisWord : mtab[15]? = some (yX12_isWord, cX12_isWord, 2, (some .boolean), 1) := rfl
set_option maxRecDepth 100000 in
theorem roisSignAt : mtab[16]? = some (yX12_isSignAt, cX12_isSignAt, 3, (some .boolean), 2) := rfl
set_option maxRecDepth 100000 in
theorem rotake : mtab[17]? = some (yX12_take, cX12_take, 1, (some .boolean), 0) := rfl
set_option maxRecDepth 100000 in
theorem rowant : mtab[18]? = some (yX12_want, cX12_want, 2, (some .boolean), 1) := rfl
set_option maxRecDepth 100000 in
theorem roenter : mtab[19]? = some (yX12_enter, cX12_enter, 1, (some .boolean), 0) := rfl
set_option maxRecDepth 100000 in
theorem roemit : mtab[20]? = some (yX12_emit, cX12_emit, 5, (some .int), 3) := rfl
set_option maxRecDepth 100000 in
theorem roemitExp : mtab[21]? = some (yX12_emitExp, cX12_emitExp, 7, (some .int), 5) := rfl
set_option maxRecDepth 100000 in
theorem rostrength : mtab[22]? = some (yX12_strength, cX12_strength, 2, (some .int), 1) := rfl
set_option maxRecDepth 100000 in
theorem roisType : mtab[23]? = some (yX12_isType, cX12_isType, 2, (some .boolean), 1) := rfl
set_option maxRecDepth 100000 in
theorem roisSetAt : mtab[24]? = some (yX12_isSetAt, cX12_isSetAt, 2, (some .boolean), 1) := rfl
set_option maxRecDepth 100000 in
theorem ropush : mtab[25]? = some (yX12_push, cX12_push, 4, (some .boolean), 3) := rfl
set_option maxRecDepth 100000 in
theorem rowhole : mtab[26]? = some (yX12_whole, cX12_whole, 2, none, 1) := rfl
set_option maxRecDepth 100000 in
theorem roexpression : mtab[27]? = some (yX12_expression, cX12_expression, 3, (some .boolean), 0) := rfl
set_option maxRecDepth 100000 in
theorem rowait : mtab[28]? = some (yX12_wait, cX12_wait, 2, (some .boolean), 1) := rfl
set_option maxRecDepth 100000 in
theorem rooperand : mtab[29]? = some (yX12_operand, cX12_operand, 6, (some .boolean), 1) := rfl
set_option maxRecDepth 100000 in
theorem ronamed : mtab[30]? = some (yX12_named, cX12_named, 5, (some .boolean), 1) := rfl
set_option maxRecDepth 100000 in
theorem rocloseCall : mtab[31]? = some (yX12_closeCall, cX12_closeCall, 3, (some .boolean), 0) := rfl
set_option maxRecDepth 100000 in
theorem roreduce : mtab[32]? = some (yX12_reduce, cX12_reduce, 8, none, 1) := rfl
set_option maxRecDepth 100000 in
theorem rocomplete : mtab[33]? = some (yX12_complete, cX12_complete, 4, none, 0) := rfl
set_option maxRecDepth 100000 in
theorem robehind : mtab[34]? = some (yX12_behind, cX12_behind, 6, (some .boolean), 0) := rfl
set_option maxRecDepth 100000 in
theorem rothing : mtab[35]? = some (yX12_thing, cX12_thing, 4, (some .int), 2) := rfl
set_option maxRecDepth 100000 in
theorem roopen : mtab[36]? = some (yX12_open, cX12_open, 4, (some .boolean), 3) := rfl
set_option maxRecDepth 100000 in
theorem roparse : mtab[37]? = some (yX12_parse, cX12_parse, 1, (some .boolean), 0) := rfl
set_option maxRecDepth 100000 in
theorem romethod : mtab[38]? = some (yX12_method, cX12_method, 5, (some .boolean), 0) := rfl
set_option maxRecDepth 100000 in
theorem roparam : mtab[39]? = some (yX12_param, cX12_param, 5, (some .boolean), 2) := rfl
set_option maxRecDepth 100000 in
theorem rovariable : mtab[40]? = some (yX12_variable, cX12_variable, 5, (some .boolean), 3) := rfl
set_option maxRecDepth 100000 in
theorem roscope : mtab[41]? = some (yX12_scope, cX12_scope, 2, (some .int), 0) := rfl
set_option maxRecDepth 100000 in
theorem roleave : mtab[42]? = some (yX12_leave, cX12_leave, 4, none, 2) := rfl
set_option maxRecDepth 100000 in
theorem roisRow : mtab[43]? = some (yX12_isRow, cX12_isRow, 2, (some .boolean), 1) := rfl
set_option maxRecDepth 100000 in
theorem ropiece : mtab[44]? = some (yX12_piece, cX12_piece, 2, (some .boolean), 0) := rfl
set_option maxRecDepth 100000 in
theorem rogrouped : mtab[45]? = some (yX12_grouped, cX12_grouped, 4, (some .boolean), 0) := rfl
set_option maxRecDepth 100000 in
theorem roisTold : mtab[46]? = some (yX12_isTold, cX12_isTold, 1, (some .boolean), 0) := rfl
set_option maxRecDepth 100000 in
theorem rotold : mtab[47]? = some (yX12_told, cX12_told, 2, (some .boolean), 0) := rfl
set_option maxRecDepth 100000 in
theorem rodeclaration : mtab[48]? = some (yX12_declaration, cX12_declaration, 8, (some .boolean), 1) := rfl
set_option maxRecDepth 100000 in
theorem rostatement : mtab[49]? = some (yX12_statement, cX12_statement, 4, (some .boolean), 0) := rfl
set_option maxRecDepth 100000 in
theorem roplain : mtab[50]? = some (yX12_plain, cX12_plain, 2, (some .boolean), 0) := rfl
set_option maxRecDepth 100000 in
theorem ropop : mtab[51]? = some (yX12_pop, cX12_pop, 3, none, 0) := rfl
set_option maxRecDepth 100000 in
theorem rocondition : mtab[52]? = some (yX12_condition, cX12_condition, 1, (some .boolean), 0) := rfl
set_option maxRecDepth 100000 in
theorem roifOf : mtab[53]? = some (yX12_ifOf, cX12_ifOf, 4, (some .boolean), 0) := rfl
set_option maxRecDepth 100000 in
theorem rowhileOf : mtab[54]? = some (yX12_whileOf, cX12_whileOf, 4, (some .boolean), 0) := rfl
set_option maxRecDepth 100000 in
theorem rodoOf : mtab[55]? = some (yX12_doOf, cX12_doOf, 4, (some .boolean), 0) := rfl
set_option maxRecDepth 100000 in
theorem roexps : mtab[56]? = some (yX12_exps, cX12_exps, 2, (some .boolean), 0) := rfl
set_option maxRecDepth 100000 in
theorem roforOf : mtab[57]? = some (yX12_forOf, cX12_forOf, 6, (some .boolean), 0) := rfl
set_option maxRecDepth 100000 in
theorem roswitchOf : mtab[58]? = some (yX12_switchOf, cX12_switchOf, 4, (some .boolean), 0) := rfl
set_option maxRecDepth 100000 in
theorem rolabel : mtab[59]? = some (yX12_label, cX12_label, 5, (some .boolean), 0) := rfl
set_option maxRecDepth 100000 in
theorem rocloseSwitch : mtab[60]? = some (yX12_closeSwitch, cX12_closeSwitch, 3, (some .boolean), 0) := rfl
set_option maxRecDepth 100000 in
theorem roclosed : mtab[61]? = some (yX12_closed, cX12_closed, 2, (some .boolean), 1) := rfl
set_option maxRecDepth 100000 in
theorem rojump : mtab[62]? = some (yX12_jump, cX12_jump, 8, (some .boolean), 0) := rfl
set_option maxRecDepth 100000 in
theorem rosameName : mtab[63]? = some (yX12_sameName, cX12_sameName, 3, (some .boolean), 2) := rfl
set_option maxRecDepth 100000 in
theorem ronamed_ : mtab[64]? = some (yX12_named_, cX12_named_, 5, (some .int), 2) := rfl
set_option maxRecDepth 100000 in
theorem rogives : mtab[65]? = some (yX12_gives, cX12_gives, 6, (some .boolean), 0) := rfl
set_option maxRecDepth 100000 in
theorem rotryOf : mtab[66]? = some (yX12_tryOf, cX12_tryOf, 4, (some .boolean), 0) := rfl
set_option maxRecDepth 100000 in
theorem rocloseRow : mtab[67]? = some (yX12_closeRow, cX12_closeRow, 5, (some .boolean), 1) := rfl
set_option maxRecDepth 100000 in
theorem rocloseTry : mtab[68]? = some (yX12_closeTry, cX12_closeTry, 4, (some .boolean), 3) := rfl
set_option maxRecDepth 100000 in
theorem rofinished : mtab[69]? = some (yX12_finished, cX12_finished, 5, (some .boolean), 0) := rfl
set_option maxRecDepth 100000 in
theorem roerr : mtab[70]? = some (yX12_err, cX12_err, 4, none, 2) := rfl
set_option maxRecDepth 100000 in
theorem rofind : mtab[71]? = some (yX12_find, cX12_find, 3, (some .int), 1) := rfl
set_option maxRecDepth 100000 in
theorem roisNumber : mtab[72]? = some (yX12_isNumber, cX12_isNumber, 2, (some .boolean), 1) := rfl
set_option maxRecDepth 100000 in
theorem rowidens : mtab[73]? = some (yX12_widens, cX12_widens, 3, (some .boolean), 2) := rfl
set_option maxRecDepth 100000 in
theorem roholdsValue : mtab[74]? = some (yX12_holdsValue, cX12_holdsValue, 4, (some .boolean), 2) := rfl
set_option maxRecDepth 100000 in
theorem rofits : mtab[75]? = some (yX12_fits, cX12_fits, 4, (some .boolean), 2) := rfl
set_option maxRecDepth 100000 in
theorem rocast : mtab[76]? = some (yX12_cast, cX12_cast, 4, (some .long), 2) := rfl
set_option maxRecDepth 100000 in
theorem rolie : mtab[77]? = some (yX12_lie, cX12_lie, 6, none, 4) := rfl
set_option maxRecDepth 100000 in
theorem ronone : mtab[78]? = some (yX12_none, cX12_none, 2, none, 1) := rfl
set_option maxRecDepth 100000 in
theorem roisBad : mtab[79]? = some (yX12_isBad, cX12_isBad, 2, (some .boolean), 1) := rfl
set_option maxRecDepth 100000 in
theorem roneed : mtab[80]? = some (yX12_need, cX12_need, 3, (some .boolean), 2) := rfl
set_option maxRecDepth 100000 in
theorem rowide : mtab[81]? = some (yX12_wide, cX12_wide, 2, (some .int), 1) := rfl
set_option maxRecDepth 100000 in
theorem rojudgeAll : mtab[82]? = some (yX12_judgeAll, cX12_judgeAll, 2, none, 0) := rfl
set_option maxRecDepth 100000 in
theorem rotypeOfParam : mtab[83]? = some (yX12_typeOfParam, cX12_typeOfParam, 3, (some .int), 2) := rfl
set_option maxRecDepth 100000 in
theorem roparamsOf : mtab[84]? = some (yX12_paramsOf, cX12_paramsOf, 2, (some .int), 1) := rfl
set_option maxRecDepth 100000 in
theorem roresultOf : mtab[85]? = some (yX12_resultOf, cX12_resultOf, 2, (some .int), 1) := rfl
set_option maxRecDepth 100000 in
theorem roisNamed : mtab[86]? = some (yX12_isNamed, cX12_isNamed, 5, (some .boolean), 2) := rfl
set_option maxRecDepth 100000 in
theorem romethodsTold : mtab[87]? = some (yX12_methodsTold, cX12_methodsTold, 6, none, 0) := rfl
set_option maxRecDepth 100000 in
theorem rojudgeExp : mtab[88]? = some (yX12_judgeExp, cX12_judgeExp, 9, none, 1) := rfl
set_option maxRecDepth 100000 in
theorem roliteral : mtab[89]? = some (yX12_literal, cX12_literal, 5, none, 2) := rfl
set_option maxRecDepth 100000 in
theorem rostep : mtab[90]? = some (yX12_step, cX12_step, 5, none, 2) := rfl
set_option maxRecDepth 100000 in
theorem rounary : mtab[91]? = some (yX12_unary, cX12_unary, 8, none, 1) := rfl
set_option maxRecDepth 100000 in
theorem rocasts : mtab[92]? = some (yX12_casts, cX12_casts, 2, none, 1) := rfl
set_option maxRecDepth 100000 in
theorem roisShift : mtab[93]? = some (yX12_isShift, cX12_isShift, 2, (some .boolean), 1) := rfl
set_option maxRecDepth 100000 in
theorem roisBits : mtab[94]? = some (yX12_isBits, cX12_isBits, 2, (some .boolean), 1) := rfl
set_option maxRecDepth 100000 in
theorem robinary : mtab[95]? = some (yX12_binary, cX12_binary, 10, none, 1) := rfl
set_option maxRecDepth 100000 in
theorem ropair : mtab[96]? = some (yX12_pair, cX12_pair, 3, (some .boolean), 2) := rfl
set_option maxRecDepth 100000 in
theorem roreckon : mtab[97]? = some (yX12_reckon, cX12_reckon, 7, (some .long), 4) := rfl
set_option maxRecDepth 100000 in
theorem rochoice : mtab[98]? = some (yX12_choice, cX12_choice, 10, none, 1) := rfl
set_option maxRecDepth 100000 in
theorem roisHeld : mtab[99]? = some (yX12_isHeld, cX12_isHeld, 3, (some .boolean), 2) := rfl
set_option maxRecDepth 100000 in
theorem roassign : mtab[100]? = some (yX12_assign, cX12_assign, 9, none, 2) := rfl
set_option maxRecDepth 100000 in
theorem rotakes : mtab[101]? = some (yX12_takes, cX12_takes, 6, (some .boolean), 3) := rfl
set_option maxRecDepth 100000 in
theorem roisCloser : mtab[102]? = some (yX12_isCloser, cX12_isCloser, 5, (some .boolean), 2) := rfl
set_option maxRecDepth 100000 in
theorem roisMethod : mtab[103]? = some (yX12_isMethod, cX12_isMethod, 2, (some .boolean), 1) := rfl
set_option maxRecDepth 100000 in
theorem rocall : mtab[104]? = some (yX12_call, cX12_call, 10, none, 2) := rfl
set_option maxRecDepth 100000 in
theorem rojudgeStep : mtab[105]? = some (yX12_judgeStep, cX12_judgeStep, 7, none, 1) := rfl
set_option maxRecDepth 100000 in
theorem rokeep : mtab[106]? = some (yX12_keep, cX12_keep, 2, none, 1) := rfl
set_option maxRecDepth 100000 in
theorem rodeclared : mtab[107]? = some (yX12_declared, cX12_declared, 3, none, 2) := rfl
set_option maxRecDepth 100000 in
theorem rocased : mtab[108]? = some (yX12_cased, cX12_cased, 4, none, 2) := rfl
set_option maxRecDepth 100000 in
theorem roreturns : mtab[109]? = some (yX12_returns, cX12_returns, 4, none, 2) := rfl
set_option maxRecDepth 100000 in
theorem rolateErr : mtab[110]? = some (yX12_lateErr, cX12_lateErr, 4, none, 2) := rfl
set_option maxRecDepth 100000 in
theorem ronow : mtab[111]? = some (yX12_now, cX12_now, 1, (some .long), 0) := rfl
set_option maxRecDepth 100000 in
theorem robe : mtab[112]? = some (yX12_be, cX12_be, 3, none, 1) := rfl
set_option maxRecDepth 100000 in
theorem roflow : mtab[113]? = some (yX12_flow, cX12_flow, 3, none, 0) := rfl
set_option maxRecDepth 100000 in
theorem rostart : mtab[114]? = some (yX12_start, cX12_start, 5, none, 1) := rfl
set_option maxRecDepth 100000 in
theorem rovalue : mtab[115]? = some (yX12_value, cX12_value, 3, none, 2) := rfl
set_option maxRecDepth 100000 in
theorem rosided : mtab[116]? = some (yX12_sided, cX12_sided, 4, none, 1) := rfl
set_option maxRecDepth 100000 in
theorem roflowExp : mtab[117]? = some (yX12_flowExp, cX12_flowExp, 7, none, 1) := rfl
set_option maxRecDepth 100000 in
theorem rofindAt : mtab[118]? = some (yX12_findAt, cX12_findAt, 2, (some .int), 1) := rfl
set_option maxRecDepth 100000 in
theorem rocome : mtab[119]? = some (yX12_come, cX12_come, 6, (some .long), 2) := rfl
set_option maxRecDepth 100000 in
theorem rodead : mtab[120]? = some (yX12_dead, cX12_dead, 1, none, 0) := rfl
set_option maxRecDepth 100000 in
theorem roflowStep : mtab[121]? = some (yX12_flowStep, cX12_flowStep, 8, (some .int), 1) := rfl
set_option maxRecDepth 100000 in
theorem roended : mtab[122]? = some (yX12_ended, cX12_ended, 3, none, 1) := rfl
set_option maxRecDepth 100000 in
theorem roread : mtab[123]? = some (yX12_read, cX12_read, 5, (some .int), 0) := rfl
set_option maxRecDepth 100000 in
theorem roplace : mtab[124]? = some (yX12_place, cX12_place, 1, (some .int), 0) := rfl
set_option maxRecDepth 100000 in
theorem roisGood : mtab[125]? = some (yX12_isGood, cX12_isGood, 1, (some .boolean), 0) := rfl
set_option maxRecDepth 100000 in
theorem rojudge : mtab[126]? = some (yX12_judge, cX12_judge, 2, (some .int), 0) := rfl
set_option maxRecDepth 100000 in
theorem rotokens : mtab[127]? = some (yX12_tokens, cX12_tokens, 1, (some .int), 0) := rfl
set_option maxRecDepth 100000 in
theorem rotold_ : mtab[128]? = some (yX12_told_, cX12_told_, 2, (some .int), 1) := rfl
set_option maxRecDepth 100000 in
theorem roisToken : mtab[129]? = some (yX12_isToken, cX12_isToken, 2, (some .boolean), 1) := rfl
set_option maxRecDepth 100000 in
theorem rotoken : mtab[130]? = some (yX12_token, cX12_token, 3, (some .int), 2) := rfl
set_option maxRecDepth 100000 in
theorem romethod_ : mtab[131]? = some (yX12_method_, cX12_method_, 3, (some .int), 2) := rfl
set_option maxRecDepth 100000 in
theorem rovariable_ : mtab[132]? = some (yX12_variable_, cX12_variable_, 3, (some .int), 2) := rfl
set_option maxRecDepth 100000 in
theorem romeans : mtab[133]? = some (yX12_means, cX12_means, 2, (some .int), 1) := rfl
set_option maxRecDepth 100000 in
theorem roexpAt : mtab[134]? = some (yX12_expAt, cX12_expAt, 5, (some .int), 2) := rfl
set_option maxRecDepth 100000 in
theorem rotype : mtab[135]? = some (yX12_type, cX12_type, 4, (some .int), 2) := rfl
set_option maxRecDepth 100000 in
theorem roconstant : mtab[136]? = some (yX12_constant, cX12_constant, 4, (some .long), 2) := rfl
set_option maxRecDepth 100000 in
theorem roends : mtab[137]? = some (yX12_ends, cX12_ends, 2, (some .int), 1) := rfl
set_option maxRecDepth 100000 in
theorem roassigned : mtab[138]? = some (yX12_assigned, cX12_assigned, 3, (some .int), 2) := rfl
set_option maxRecDepth 100000 in
theorem roargument : mtab[139]? = some (yX12_argument, cX12_argument, 4, (some .int), 2) := rfl
set_option maxRecDepth 100000 in
theorem roinput : mtab[140]? = some (yX12_input, cX12_input, 2, (some .int), 1) := rfl
set_option maxRecDepth 100000 in
theorem rodrain : mtab[141]? = some (yX12_drain, cX12_drain, 2, (some .int), 0) := rfl
set_option maxRecDepth 100000 in
theorem rolinks : mtab[142]? = some (yX12_links, cX12_links, 4, none, 0) := rfl
set_option maxRecDepth 100000 in
theorem ropop1 : mtab[143]? = some (yX12_pop1, cX12_pop1, 1, (some .long), 0) := rfl
set_option maxRecDepth 100000 in
theorem roput : mtab[144]? = some (yX12_put, cX12_put, 3, none, 1) := rfl
set_option maxRecDepth 100000 in
theorem rocount1 : mtab[145]? = some (yX12_count1, cX12_count1, 1, (some .boolean), 0) := rfl
set_option maxRecDepth 100000 in
theorem roslot : mtab[146]? = some (yX12_slot, cX12_slot, 2, (some .int), 1) := rfl
set_option maxRecDepth 100000 in
theorem roleave_ : mtab[147]? = some (yX12_leave_, cX12_leave_, 7, none, 3) := rfl
set_option maxRecDepth 100000 in
theorem roback : mtab[148]? = some (yX12_back, cX12_back, 5, none, 1) := rfl
set_option maxRecDepth 100000 in
theorem roraise : mtab[149]? = some (yX12_raise, cX12_raise, 5, none, 1) := rfl
set_option maxRecDepth 100000 in
theorem robegin : mtab[150]? = some (yX12_begin, cX12_begin, 3, (some .boolean), 2) := rfl
set_option maxRecDepth 100000 in
theorem rorun : mtab[151]? = some (yX12_run, cX12_run, 4, (some .int), 2) := rfl
set_option maxRecDepth 100000 in
theorem rowork : mtab[152]? = some (yX12_work, cX12_work, 16, none, 1) := rfl
set_option maxRecDepth 100000 in
theorem rooperate : mtab[153]? = some (yX12_operate, cX12_operate, 7, none, 4) := rfl
set_option maxRecDepth 100000 in
theorem rocall0 : mtab[154]? = some (yX12_call0, cX12_call0, 6, none, 1) := rfl
set_option maxRecDepth 100000 in
theorem ronext : mtab[155]? = some (yX12_next, cX12_next, 1, (some .long), 0) := rfl
set_option maxRecDepth 100000 in
theorem rotell : mtab[156]? = some (yX12_tell, cX12_tell, 3, none, 1) := rfl
set_option maxRecDepth 100000 in
theorem roworkStep : mtab[157]? = some (yX12_workStep, cX12_workStep, 7, none, 2) := rfl
set_option maxRecDepth 100000 in
theorem roover : mtab[158]? = some (yX12_over, cX12_over, 2, none, 0) := rfl
set_option maxRecDepth 100000 in
theorem rochoose : mtab[159]? = some (yX12_choose, cX12_choose, 5, none, 2) := rfl
set_option maxRecDepth 100000 in
theorem roran : mtab[160]? = some (yX12_ran, cX12_ran, 2, (some .long), 1) := rfl
theorem oi_m10 : Int32.ofInt (-10) = (-10) := rfl
theorem oi_m8 : Int32.ofInt (-8) = (-8) := rfl
theorem oi_m5 : Int32.ofInt (-5) = (-5) := rfl
theorem oi_m3 : Int32.ofInt (-3) = (-3) := rfl
theorem oi_m2 : Int32.ofInt (-2) = (-2) := rfl
theorem oi_m1 : Int32.ofInt (-1) = (-1) := rfl
theorem oi_0 : Int32.ofInt 0 = 0 := rfl
theorem oi_1 : Int32.ofInt 1 = 1 := rfl
theorem oi_2 : Int32.ofInt 2 = 2 := rfl
theorem oi_3 : Int32.ofInt 3 = 3 := rfl
theorem oi_4 : Int32.ofInt 4 = 4 := rfl
theorem oi_5 : Int32.ofInt 5 = 5 := rfl
theorem oi_6 : Int32.ofInt 6 = 6 := rfl
theorem oi_7 : Int32.ofInt 7 = 7 := rfl
theorem oi_8 : Int32.ofInt 8 = 8 := rfl
theorem oi_9 : Int32.ofInt 9 = 9 := rfl
theorem oi_10 : Int32.ofInt 10 = 10 := rfl
theorem oi_11 : Int32.ofInt 11 = 11 := rfl
theorem oi_12 : Int32.ofInt 12 = 12 := rfl
theorem oi_13 : Int32.ofInt 13 = 13 := rfl
theorem oi_14 : Int32.ofInt 14 = 14 := rfl
theorem oi_15 : Int32.ofInt 15 = 15 := rfl
theorem oi_16 : Int32.ofInt 16 = 16 := rfl
theorem oi_17 : Int32.ofInt 17 = 17 := rfl
theorem oi_18 : Int32.ofInt 18 = 18 := rfl
theorem oi_19 : Int32.ofInt 19 = 19 := rfl
theorem oi_20 : Int32.ofInt 20 = 20 := rfl
theorem oi_21 : Int32.ofInt 21 = 21 := rfl
theorem oi_22 : Int32.ofInt 22 = 22 := rfl
theorem oi_23 : Int32.ofInt 23 = 23 := rfl
theorem oi_24 : Int32.ofInt 24 = 24 := rfl
theorem oi_25 : Int32.ofInt 25 = 25 := rfl
theorem oi_26 : Int32.ofInt 26 = 26 := rfl
theorem oi_27 : Int32.ofInt 27 = 27 := rfl
theorem oi_28 : Int32.ofInt 28 = 28 := rfl
theorem oi_29 : Int32.ofInt 29 = 29 := rfl
theorem oi_30 : Int32.ofInt 30 = 30 := rfl
theorem oi_31 : Int32.ofInt 31 = 31 := rfl
theorem oi_32 : Int32.ofInt 32 = 32 := rfl
theorem oi_33 : Int32.ofInt 33 = 33 := rfl
theorem oi_34 : Int32.ofInt 34 = 34 := rfl
theorem oi_35 : Int32.ofInt 35 = 35 := rfl
theorem oi_36 : Int32.ofInt 36 = 36 := rfl
theorem oi_37 : Int32.ofInt 37 = 37 := rfl
theorem oi_38 : Int32.ofInt 38 = 38 := rfl
theorem oi_39 : Int32.ofInt 39 = 39 := rfl
theorem oi_40 : Int32.ofInt 40 = 40 := rfl
theorem oi_41 : Int32.ofInt 41 = 41 := rfl
theorem oi_42 : Int32.ofInt 42 = 42 := rfl
theorem oi_43 : Int32.ofInt 43 = 43 := rfl
theorem oi_44 : Int32.ofInt 44 = 44 := rfl
theorem oi_45 : Int32.ofInt 45 = 45 := rfl
theorem oi_46 : Int32.ofInt 46 = 46 := rfl
theorem oi_47 : Int32.ofInt 47 = 47 := rfl
theorem oi_48 : Int32.ofInt 48 = 48 := rfl
theorem oi_49 : Int32.ofInt 49 = 49 := rfl
theorem oi_50 : Int32.ofInt 50 = 50 := rfl
theorem oi_51 : Int32.ofInt 51 = 51 := rfl
theorem oi_52 : Int32.ofInt 52 = 52 := rfl
theorem oi_53 : Int32.ofInt 53 = 53 := rfl
theorem oi_54 : Int32.ofInt 54 = 54 := rfl
theorem oi_57 : Int32.ofInt 57 = 57 := rfl
theorem oi_58 : Int32.ofInt 58 = 58 := rfl
theorem oi_59 : Int32.ofInt 59 = 59 := rfl
theorem oi_60 : Int32.ofInt 60 = 60 := rfl
theorem oi_61 : Int32.ofInt 61 = 61 := rfl
theorem oi_62 : Int32.ofInt 62 = 62 := rfl
theorem oi_63 : Int32.ofInt 63 = 63 := rfl
theorem oi_65 : Int32.ofInt 65 = 65 := rfl
theorem oi_76 : Int32.ofInt 76 = 76 := rfl
theorem oi_90 : Int32.ofInt 90 = 90 := rfl
theorem oi_92 : Int32.ofInt 92 = 92 := rfl
theorem oi_94 : Int32.ofInt 94 = 94 := rfl
theorem oi_97 : Int32.ofInt 97 = 97 := rfl
theorem oi_100 : Int32.ofInt 100 = 100 := rfl
theorem oi_122 : Int32.ofInt 122 = 122 := rfl
theorem oi_123 : Int32.ofInt 123 = 123 := rfl
theorem oi_124 : Int32.ofInt 124 = 124 := rfl
theorem oi_125 : Int32.ofInt 125 = 125 := rfl
theorem oi_126 : Int32.ofInt 126 = 126 := rfl
theorem oi_127 : Int32.ofInt 127 = 127 := rfl
theorem oi_200 : Int32.ofInt 200 = 200 := rfl
theorem oi_255 : Int32.ofInt 255 = 255 := rfl
theorem oi_300 : Int32.ofInt 300 = 300 := rfl
theorem oi_301 : Int32.ofInt 301 = 301 := rfl
theorem oi_302 : Int32.ofInt 302 = 302 := rfl
theorem oi_303 : Int32.ofInt 303 = 303 := rfl
theorem oi_304 : Int32.ofInt 304 = 304 := rfl
theorem oi_305 : Int32.ofInt 305 = 305 := rfl
theorem oi_306 : Int32.ofInt 306 = 306 := rfl
theorem oi_307 : Int32.ofInt 307 = 307 := rfl
theorem oi_308 : Int32.ofInt 308 = 308 := rfl
theorem oi_309 : Int32.ofInt 309 = 309 := rfl
theorem oi_310 : Int32.ofInt 310 = 310 := rfl
theorem oi_400 : Int32.ofInt 400 = 400 := rfl
theorem oi_500 : Int32.ofInt 500 = 500 := rfl
theorem oi_1000 : Int32.ofInt 1000 = 1000 := rfl
theorem oi_2500 : Int32.ofInt 2500 = 2500 := rfl
theorem oi_2590 : Int32.ofInt 2590 = 2590 := rfl
theorem oi_20000 : Int32.ofInt 20000 = 20000 := rfl
set_option maxRecDepth 10000 in
theorem in_0 {j : Int32} (h0 : 0 ≤ j) (h1 : j < 2500) : vp_in j (ln 0) := in32 2500 rfl (by decide) h0 h1
set_option maxRecDepth 10000 in
theorem in_3 {j : Int32} (h0 : 0 ≤ j) (h1 : j < 2600) : vp_in j (ln 3) := in32 2600 rfl (by decide) h0 h1
set_option maxRecDepth 10000 in
theorem in_4 {j : Int32} (h0 : 0 ≤ j) (h1 : j < 2600) : vp_in j (ln 4) := in32 2600 rfl (by decide) h0 h1
set_option maxRecDepth 10000 in
theorem in_5 {j : Int32} (h0 : 0 ≤ j) (h1 : j < 2600) : vp_in j (ln 5) := in32 2600 rfl (by decide) h0 h1
set_option maxRecDepth 10000 in
theorem in_6 {j : Int32} (h0 : 0 ≤ j) (h1 : j < 2600) : vp_in j (ln 6) := in32 2600 rfl (by decide) h0 h1
set_option maxRecDepth 10000 in
theorem in_7 {j : Int32} (h0 : 0 ≤ j) (h1 : j < 2600) : vp_in j (ln 7) := in32 2600 rfl (by decide) h0 h1
set_option maxRecDepth 10000 in
theorem in_8 {j : Int32} (h0 : 0 ≤ j) (h1 : j < 2600) : vp_in j (ln 8) := in32 2600 rfl (by decide) h0 h1
set_option maxRecDepth 10000 in
theorem in_9 {j : Int32} (h0 : 0 ≤ j) (h1 : j < 2600) : vp_in j (ln 9) := in32 2600 rfl (by decide) h0 h1
set_option maxRecDepth 10000 in
theorem in_10 {j : Int32} (h0 : 0 ≤ j) (h1 : j < 2600) : vp_in j (ln 10) := in32 2600 rfl (by decide) h0 h1
set_option maxRecDepth 10000 in
theorem in_11 {j : Int32} (h0 : 0 ≤ j) (h1 : j < 2600) : vp_in j (ln 11) := in32 2600 rfl (by decide) h0 h1
set_option maxRecDepth 10000 in
theorem in_19 {j : Int32} (h0 : 0 ≤ j) (h1 : j < 4000) : vp_in j (ln 19) := in32 4000 rfl (by decide) h0 h1
set_option maxRecDepth 10000 in
theorem in_20 {j : Int32} (h0 : 0 ≤ j) (h1 : j < 4000) : vp_in j (ln 20) := in32 4000 rfl (by decide) h0 h1
set_option maxRecDepth 10000 in
theorem in_21 {j : Int32} (h0 : 0 ≤ j) (h1 : j < 4000) : vp_in j (ln 21) := in32 4000 rfl (by decide) h0 h1
set_option maxRecDepth 10000 in
theorem in_22 {j : Int32} (h0 : 0 ≤ j) (h1 : j < 4000) : vp_in j (ln 22) := in32 4000 rfl (by decide) h0 h1
set_option maxRecDepth 10000 in
theorem in_23 {j : Int32} (h0 : 0 ≤ j) (h1 : j < 4000) : vp_in j (ln 23) := in32 4000 rfl (by decide) h0 h1
set_option maxRecDepth 10000 in
theorem in_24 {j : Int32} (h0 : 0 ≤ j) (h1 : j < 4000) : vp_in j (ln 24) := in32 4000 rfl (by decide) h0 h1
set_option maxRecDepth 10000 in
theorem in_25 {j : Int32} (h0 : 0 ≤ j) (h1 : j < 600) : vp_in j (ln 25) := in32 600 rfl (by decide) h0 h1
set_option maxRecDepth 10000 in
theorem in_26 {j : Int32} (h0 : 0 ≤ j) (h1 : j < 600) : vp_in j (ln 26) := in32 600 rfl (by decide) h0 h1
set_option maxRecDepth 10000 in
theorem in_27 {j : Int32} (h0 : 0 ≤ j) (h1 : j < 600) : vp_in j (ln 27) := in32 600 rfl (by decide) h0 h1
set_option maxRecDepth 10000 in
theorem in_28 {j : Int32} (h0 : 0 ≤ j) (h1 : j < 600) : vp_in j (ln 28) := in32 600 rfl (by decide) h0 h1
set_option maxRecDepth 10000 in
theorem in_30 {j : Int32} (h0 : 0 ≤ j) (h1 : j < 600) : vp_in j (ln 30) := in32 600 rfl (by decide) h0 h1
set_option maxRecDepth 10000 in
theorem in_37 {j : Int32} (h0 : 0 ≤ j) (h1 : j < 16) : vp_in j (ln 37) := in32 16 rfl (by decide) h0 h1
set_option maxRecDepth 10000 in
theorem in_38 {j : Int32} (h0 : 0 ≤ j) (h1 : j < 16) : vp_in j (ln 38) := in32 16 rfl (by decide) h0 h1
set_option maxRecDepth 10000 in
theorem in_39 {j : Int32} (h0 : 0 ≤ j) (h1 : j < 16) : vp_in j (ln 39) := in32 16 rfl (by decide) h0 h1
set_option maxRecDepth 10000 in
theorem in_40 {j : Int32} (h0 : 0 ≤ j) (h1 : j < 16) : vp_in j (ln 40) := in32 16 rfl (by decide) h0 h1
set_option maxRecDepth 10000 in
theorem in_41 {j : Int32} (h0 : 0 ≤ j) (h1 : j < 16) : vp_in j (ln 41) := in32 16 rfl (by decide) h0 h1
set_option maxRecDepth 10000 in
theorem in_43 {j : Int32} (h0 : 0 ≤ j) (h1 : j < 64) : vp_in j (ln 43) := in32 64 rfl (by decide) h0 h1
set_option maxRecDepth 10000 in
theorem in_44 {j : Int32} (h0 : 0 ≤ j) (h1 : j < 64) : vp_in j (ln 44) := in32 64 rfl (by decide) h0 h1
set_option maxRecDepth 10000 in
theorem in_45 {j : Int32} (h0 : 0 ≤ j) (h1 : j < 64) : vp_in j (ln 45) := in32 64 rfl (by decide) h0 h1
set_option maxRecDepth 10000 in
theorem in_46 {j : Int32} (h0 : 0 ≤ j) (h1 : j < 64) : vp_in j (ln 46) := in32 64 rfl (by decide) h0 h1
set_option maxRecDepth 10000 in
theorem in_47 {j : Int32} (h0 : 0 ≤ j) (h1 : j < 64) : vp_in j (ln 47) := in32 64 rfl (by decide) h0 h1
set_option maxRecDepth 10000 in
theorem in_48 {j : Int32} (h0 : 0 ≤ j) (h1 : j < 64) : vp_in j (ln 48) := in32 64 rfl (by decide) h0 h1
set_option maxRecDepth 10000 in
theorem in_50 {j : Int32} (h0 : 0 ≤ j) (h1 : j < 600) : vp_in j (ln 50) := in32 600 rfl (by decide) h0 h1
set_option maxRecDepth 10000 in
theorem in_51 {j : Int32} (h0 : 0 ≤ j) (h1 : j < 600) : vp_in j (ln 51) := in32 600 rfl (by decide) h0 h1
set_option maxRecDepth 10000 in
theorem in_52 {j : Int32} (h0 : 0 ≤ j) (h1 : j < 600) : vp_in j (ln 52) := in32 600 rfl (by decide) h0 h1
set_option maxRecDepth 10000 in
theorem in_53 {j : Int32} (h0 : 0 ≤ j) (h1 : j < 600) : vp_in j (ln 53) := in32 600 rfl (by decide) h0 h1
set_option maxRecDepth 10000 in
theorem in_54 {j : Int32} (h0 : 0 ≤ j) (h1 : j < 600) : vp_in j (ln 54) := in32 600 rfl (by decide) h0 h1
set_option maxRecDepth 10000 in
theorem in_55 {j : Int32} (h0 : 0 ≤ j) (h1 : j < 600) : vp_in j (ln 55) := in32 600 rfl (by decide) h0 h1
set_option maxRecDepth 10000 in
theorem in_56 {j : Int32} (h0 : 0 ≤ j) (h1 : j < 600) : vp_in j (ln 56) := in32 600 rfl (by decide) h0 h1
set_option maxRecDepth 10000 in
theorem in_57 {j : Int32} (h0 : 0 ≤ j) (h1 : j < 600) : vp_in j (ln 57) := in32 600 rfl (by decide) h0 h1
set_option maxRecDepth 10000 in
theorem in_58 {j : Int32} (h0 : 0 ≤ j) (h1 : j < 600) : vp_in j (ln 58) := in32 600 rfl (by decide) h0 h1
set_option maxRecDepth 10000 in
theorem in_59 {j : Int32} (h0 : 0 ≤ j) (h1 : j < 600) : vp_in j (ln 59) := in32 600 rfl (by decide) h0 h1
set_option maxRecDepth 10000 in
theorem in_60 {j : Int32} (h0 : 0 ≤ j) (h1 : j < 600) : vp_in j (ln 60) := in32 600 rfl (by decide) h0 h1
set_option maxRecDepth 10000 in
theorem in_61 {j : Int32} (h0 : 0 ≤ j) (h1 : j < 600) : vp_in j (ln 61) := in32 600 rfl (by decide) h0 h1
set_option maxRecDepth 10000 in
theorem in_63 {j : Int32} (h0 : 0 ≤ j) (h1 : j < 80) : vp_in j (ln 63) := in32 80 rfl (by decide) h0 h1
set_option maxRecDepth 10000 in
theorem in_64 {j : Int32} (h0 : 0 ≤ j) (h1 : j < 80) : vp_in j (ln 64) := in32 80 rfl (by decide) h0 h1
set_option maxRecDepth 10000 in
theorem in_65 {j : Int32} (h0 : 0 ≤ j) (h1 : j < 80) : vp_in j (ln 65) := in32 80 rfl (by decide) h0 h1
set_option maxRecDepth 10000 in
theorem in_70 {j : Int32} (h0 : 0 ≤ j) (h1 : j < 700) : vp_in j (ln 70) := in32 700 rfl (by decide) h0 h1
set_option maxRecDepth 10000 in
theorem in_71 {j : Int32} (h0 : 0 ≤ j) (h1 : j < 700) : vp_in j (ln 71) := in32 700 rfl (by decide) h0 h1
set_option maxRecDepth 10000 in
theorem in_72 {j : Int32} (h0 : 0 ≤ j) (h1 : j < 700) : vp_in j (ln 72) := in32 700 rfl (by decide) h0 h1
set_option maxRecDepth 10000 in
theorem in_73 {j : Int32} (h0 : 0 ≤ j) (h1 : j < 700) : vp_in j (ln 73) := in32 700 rfl (by decide) h0 h1
set_option maxRecDepth 10000 in
theorem in_75 {j : Int32} (h0 : 0 ≤ j) (h1 : j < 2000) : vp_in j (ln 75) := in32 2000 rfl (by decide) h0 h1
set_option maxRecDepth 10000 in
theorem in_76 {j : Int32} (h0 : 0 ≤ j) (h1 : j < 2000) : vp_in j (ln 76) := in32 2000 rfl (by decide) h0 h1
set_option maxRecDepth 10000 in
theorem in_77 {j : Int32} (h0 : 0 ≤ j) (h1 : j < 2000) : vp_in j (ln 77) := in32 2000 rfl (by decide) h0 h1
set_option maxRecDepth 10000 in
theorem in_78 {j : Int32} (h0 : 0 ≤ j) (h1 : j < 2000) : vp_in j (ln 78) := in32 2000 rfl (by decide) h0 h1
set_option maxRecDepth 10000 in
theorem in_79 {j : Int32} (h0 : 0 ≤ j) (h1 : j < 2000) : vp_in j (ln 79) := in32 2000 rfl (by decide) h0 h1
set_option maxRecDepth 10000 in
theorem in_80 {j : Int32} (h0 : 0 ≤ j) (h1 : j < 2600) : vp_in j (ln 80) := in32 2600 rfl (by decide) h0 h1
set_option maxRecDepth 10000 in
theorem in_81 {j : Int32} (h0 : 0 ≤ j) (h1 : j < 4000) : vp_in j (ln 81) := in32 4000 rfl (by decide) h0 h1
set_option maxRecDepth 10000 in
theorem in_82 {j : Int32} (h0 : 0 ≤ j) (h1 : j < 4000) : vp_in j (ln 82) := in32 4000 rfl (by decide) h0 h1
set_option maxRecDepth 10000 in
theorem in_83 {j : Int32} (h0 : 0 ≤ j) (h1 : j < 4000) : vp_in j (ln 83) := in32 4000 rfl (by decide) h0 h1
set_option maxRecDepth 10000 in
theorem in_84 {j : Int32} (h0 : 0 ≤ j) (h1 : j < 4000) : vp_in j (ln 84) := in32 4000 rfl (by decide) h0 h1
set_option maxRecDepth 10000 in
theorem in_85 {j : Int32} (h0 : 0 ≤ j) (h1 : j < 4000) : vp_in j (ln 85) := in32 4000 rfl (by decide) h0 h1
set_option maxRecDepth 10000 in
theorem in_86 {j : Int32} (h0 : 0 ≤ j) (h1 : j < 64) : vp_in j (ln 86) := in32 64 rfl (by decide) h0 h1
set_option maxRecDepth 10000 in
theorem in_87 {j : Int32} (h0 : 0 ≤ j) (h1 : j < 64) : vp_in j (ln 87) := in32 64 rfl (by decide) h0 h1
set_option maxRecDepth 10000 in
theorem in_88 {j : Int32} (h0 : 0 ≤ j) (h1 : j < 600) : vp_in j (ln 88) := in32 600 rfl (by decide) h0 h1
set_option maxRecDepth 10000 in
theorem in_90 {j : Int32} (h0 : 0 ≤ j) (h1 : j < 80) : vp_in j (ln 90) := in32 80 rfl (by decide) h0 h1
set_option maxRecDepth 10000 in
theorem in_95 {j : Int32} (h0 : 0 ≤ j) (h1 : j < 600) : vp_in j (ln 95) := in32 600 rfl (by decide) h0 h1
set_option maxRecDepth 10000 in
theorem in_96 {j : Int32} (h0 : 0 ≤ j) (h1 : j < 600) : vp_in j (ln 96) := in32 600 rfl (by decide) h0 h1
set_option maxRecDepth 10000 in
theorem in_97 {j : Int32} (h0 : 0 ≤ j) (h1 : j < 600) : vp_in j (ln 97) := in32 600 rfl (by decide) h0 h1
set_option maxRecDepth 10000 in
theorem in_98 {j : Int32} (h0 : 0 ≤ j) (h1 : j < 600) : vp_in j (ln 98) := in32 600 rfl (by decide) h0 h1
set_option maxRecDepth 10000 in
theorem in_99 {j : Int32} (h0 : 0 ≤ j) (h1 : j < 600) : vp_in j (ln 99) := in32 600 rfl (by decide) h0 h1
set_option maxRecDepth 10000 in
theorem in_101 {j : Int32} (h0 : 0 ≤ j) (h1 : j < 300) : vp_in j (ln 101) := in32 300 rfl (by decide) h0 h1
set_option maxRecDepth 10000 in
theorem in_102 {j : Int32} (h0 : 0 ≤ j) (h1 : j < 300) : vp_in j (ln 102) := in32 300 rfl (by decide) h0 h1
set_option maxRecDepth 10000 in
theorem in_104 {j : Int32} (h0 : 0 ≤ j) (h1 : j < 600) : vp_in j (ln 104) := in32 600 rfl (by decide) h0 h1
set_option maxRecDepth 10000 in
theorem in_105 {j : Int32} (h0 : 0 ≤ j) (h1 : j < 600) : vp_in j (ln 105) := in32 600 rfl (by decide) h0 h1
set_option maxRecDepth 10000 in
theorem in_106 {j : Int32} (h0 : 0 ≤ j) (h1 : j < 600) : vp_in j (ln 106) := in32 600 rfl (by decide) h0 h1
set_option maxRecDepth 10000 in
theorem in_107 {j : Int32} (h0 : 0 ≤ j) (h1 : j < 600) : vp_in j (ln 107) := in32 600 rfl (by decide) h0 h1
set_option maxRecDepth 10000 in
theorem in_108 {j : Int32} (h0 : 0 ≤ j) (h1 : j < 600) : vp_in j (ln 108) := in32 600 rfl (by decide) h0 h1
set_option maxRecDepth 10000 in
theorem in_109 {j : Int32} (h0 : 0 ≤ j) (h1 : j < 2600) : vp_in j (ln 109) := in32 2600 rfl (by decide) h0 h1
set_option maxRecDepth 10000 in
theorem in_110 {j : Int32} (h0 : 0 ≤ j) (h1 : j < 2600) : vp_in j (ln 110) := in32 2600 rfl (by decide) h0 h1
set_option maxRecDepth 10000 in
theorem in_111 {j : Int32} (h0 : 0 ≤ j) (h1 : j < 2600) : vp_in j (ln 111) := in32 2600 rfl (by decide) h0 h1
set_option maxRecDepth 10000 in
theorem in_118 {j : Int32} (h0 : 0 ≤ j) (h1 : j < 2500) : vp_in j (ln 118) := in32 2500 rfl (by decide) h0 h1
set_option maxRecDepth 10000 in
theorem in_122 {j : Int32} (h0 : 0 ≤ j) (h1 : j < 40) : vp_in j (ln 122) := in32 40 rfl (by decide) h0 h1
set_option maxRecDepth 10000 in
theorem in_124 {j : Int32} (h0 : 0 ≤ j) (h1 : j < 6) : vp_in j (ln 124) := in32 6 rfl (by decide) h0 h1
set_option maxRecDepth 10000 in
theorem in_125 {j : Int32} (h0 : 0 ≤ j) (h1 : j < 4000) : vp_in j (ln 125) := in32 4000 rfl (by decide) h0 h1
set_option maxRecDepth 10000 in
theorem in_126 {j : Int32} (h0 : 0 ≤ j) (h1 : j < 300) : vp_in j (ln 126) := in32 300 rfl (by decide) h0 h1
set_option maxRecDepth 10000 in
theorem in_127 {j : Int32} (h0 : 0 ≤ j) (h1 : j < 8000) : vp_in j (ln 127) := in32 8000 rfl (by decide) h0 h1
set_option maxRecDepth 10000 in
theorem in_130 {j : Int32} (h0 : 0 ≤ j) (h1 : j < 1860) : vp_in j (ln 130) := in32 1860 rfl (by decide) h0 h1
set_option maxRecDepth 10000 in
theorem in_131 {j : Int32} (h0 : 0 ≤ j) (h1 : j < 31) : vp_in j (ln 131) := in32 31 rfl (by decide) h0 h1
set_option maxRecDepth 10000 in
theorem in_132 {j : Int32} (h0 : 0 ≤ j) (h1 : j < 31) : vp_in j (ln 132) := in32 31 rfl (by decide) h0 h1
set_option maxRecDepth 10000 in
theorem in_134 {j : Int32} (h0 : 0 ≤ j) (h1 : j < 2000) : vp_in j (ln 134) := in32 2000 rfl (by decide) h0 h1
set_option maxRecDepth 10000 in
theorem in_135 {j : Int32} (h0 : 0 ≤ j) (h1 : j < 2000) : vp_in j (ln 135) := in32 2000 rfl (by decide) h0 h1
set_option maxRecDepth 10000 in
theorem in_136 {j : Int32} (h0 : 0 ≤ j) (h1 : j < 2000) : vp_in j (ln 136) := in32 2000 rfl (by decide) h0 h1
set_option maxRecDepth 10000 in
theorem in_137 {j : Int32} (h0 : 0 ≤ j) (h1 : j < 2000) : vp_in j (ln 137) := in32 2000 rfl (by decide) h0 h1
set_option maxRecDepth 10000 in
theorem in_138 {j : Int32} (h0 : 0 ≤ j) (h1 : j < 2000) : vp_in j (ln 138) := in32 2000 rfl (by decide) h0 h1
set_option maxRecDepth 10000 in
theorem in_139 {j : Int32} (h0 : 0 ≤ j) (h1 : j < 2000) : vp_in j (ln 139) := in32 2000 rfl (by decide) h0 h1
set_option maxRecDepth 10000 in
theorem in_140 {j : Int32} (h0 : 0 ≤ j) (h1 : j < 2000) : vp_in j (ln 140) := in32 2000 rfl (by decide) h0 h1
set_option maxRecDepth 10000 in
theorem in_149 {j : Int32} (h0 : 0 ≤ j) (h1 : j < 200) : vp_in j (ln 149) := in32 200 rfl (by decide) h0 h1

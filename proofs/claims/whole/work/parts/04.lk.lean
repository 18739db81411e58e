/-- the words that a contract may carry, and those of nest mates -/
def fwW : List Cond := lw_tbl.filter goodWord
def fwNest : Cond → Bool := fun w => match w with
  | .fieldLinkNest .. => true
  | .methodLinkNest .. => true
  | _ => false
def fwN : List Cond := lw_tbl.filter fwNest
theorem fw_mem {w : Cond} {i : Nat} (h : lw_tbl[i]? = some w) (hg : goodWord w = true) : w ∈ fwW := List.mem_filter.mpr ⟨List.mem_of_getElem? h, hg⟩
theorem fn_mem {w : Cond} {i : Nat} (h : lw_tbl[i]? = some w) (hg : fwNest w = true) : w ∈ fwN := List.mem_filter.mpr ⟨List.mem_of_getElem? h, hg⟩
theorem lk_s_X3_readPart : Cond.selects RX3 yX3_readPart yX3_readPart ∈ fwW := fw_mem (i := 0) (by decide +kernel) rfl
theorem lk_s_X3_readHouse : Cond.selects RX3 yX3_readHouse yX3_readHouse ∈ fwW := fw_mem (i := 1) (by decide +kernel) rfl
theorem lk_s_X3_figure : Cond.selects RX3 yX3_figure yX3_figure ∈ fwW := fw_mem (i := 2) (by decide +kernel) rfl
theorem lk_s_X3_readPath : Cond.selects RX3 yX3_readPath yX3_readPath ∈ fwW := fw_mem (i := 3) (by decide +kernel) rfl
theorem lk_s_X3_readEnds : Cond.selects RX3 yX3_readEnds yX3_readEnds ∈ fwW := fw_mem (i := 4) (by decide +kernel) rfl
theorem lk_s_X3_readPerson : Cond.selects RX3 yX3_readPerson yX3_readPerson ∈ fwW := fw_mem (i := 5) (by decide +kernel) rfl
theorem lk_s_X3_readKin : Cond.selects RX3 yX3_readKin yX3_readKin ∈ fwW := fw_mem (i := 6) (by decide +kernel) rfl
theorem lk_s_X8_noHouse : Cond.selects RX8 yX8_noHouse yX8_noHouse ∈ fwW := fw_mem (i := 7) (by decide +kernel) rfl
theorem lk_s_X8_noPerson : Cond.selects RX8 yX8_noPerson yX8_noPerson ∈ fwW := fw_mem (i := 8) (by decide +kernel) rfl
theorem lk_s_X8_tellTales : Cond.selects RX8 yX8_tellTales yX8_tellTales ∈ fwW := fw_mem (i := 9) (by decide +kernel) rfl
theorem lk_s_X5_look : Cond.selects RX5 yX5_look yX5_look ∈ fwW := fw_mem (i := 10) (by decide +kernel) rfl
theorem lk_s_X5_ways : Cond.selects RX5 yX5_ways yX5_ways ∈ fwW := fw_mem (i := 11) (by decide +kernel) rfl
theorem lk_s_X5_fillCube : Cond.selects RX5 yX5_fillCube yX5_fillCube ∈ fwW := fw_mem (i := 12) (by decide +kernel) rfl
theorem lk_s_X8_choiceOf : Cond.selects RX8 yX8_choiceOf yX8_choiceOf ∈ fwW := fw_mem (i := 13) (by decide +kernel) rfl
theorem lk_s_X8_lockedIn : Cond.selects RX8 yX8_lockedIn yX8_lockedIn ∈ fwW := fw_mem (i := 14) (by decide +kernel) rfl
theorem lk_s_X1_shares : Cond.selects RX1 yX1_shares yX1_shares ∈ fwW := fw_mem (i := 15) (by decide +kernel) rfl
theorem lk_s_X1_sharesAfterDawn : Cond.selects RX1 yX1_sharesAfterDawn yX1_sharesAfterDawn ∈ fwW := fw_mem (i := 16) (by decide +kernel) rfl
theorem lk_s_X8_walkBySeed : Cond.selects RX8 yX8_walkBySeed yX8_walkBySeed ∈ fwW := fw_mem (i := 17) (by decide +kernel) rfl
theorem lk_s_X9_readAll : Cond.selects RX9 yX9_readAll yX9_readAll ∈ fwW := fw_mem (i := 18) (by decide +kernel) rfl
theorem lk_s_X9_readPart : Cond.selects RX9 yX9_readPart yX9_readPart ∈ fwW := fw_mem (i := 19) (by decide +kernel) rfl
theorem lk_s_X9_hasAnyWay : Cond.selects RX9 yX9_hasAnyWay yX9_hasAnyWay ∈ fwW := fw_mem (i := 20) (by decide +kernel) rfl
theorem lk_s_X9_hasWay : Cond.selects RX9 yX9_hasWay yX9_hasWay ∈ fwW := fw_mem (i := 21) (by decide +kernel) rfl
theorem lk_s_X9_hasAnyOther : Cond.selects RX9 yX9_hasAnyOther yX9_hasAnyOther ∈ fwW := fw_mem (i := 22) (by decide +kernel) rfl
theorem lk_s_X9_hasOther : Cond.selects RX9 yX9_hasOther yX9_hasOther ∈ fwW := fw_mem (i := 23) (by decide +kernel) rfl
theorem lk_s_X9_readHouse : Cond.selects RX9 yX9_readHouse yX9_readHouse ∈ fwW := fw_mem (i := 24) (by decide +kernel) rfl
theorem lk_s_X9_takes : Cond.selects RX9 yX9_takes yX9_takes ∈ fwW := fw_mem (i := 25) (by decide +kernel) rfl
theorem lk_s_X9_peek : Cond.selects RX9 yX9_peek yX9_peek ∈ fwW := fw_mem (i := 26) (by decide +kernel) rfl
theorem lk_s_X9_readWay : Cond.selects RX9 yX9_readWay yX9_readWay ∈ fwW := fw_mem (i := 27) (by decide +kernel) rfl
theorem lk_s_X9_readPerson : Cond.selects RX9 yX9_readPerson yX9_readPerson ∈ fwW := fw_mem (i := 28) (by decide +kernel) rfl
theorem lk_s_X9_readTwo : Cond.selects RX9 yX9_readTwo yX9_readTwo ∈ fwW := fw_mem (i := 29) (by decide +kernel) rfl
theorem lk_s_X9_noHouse : Cond.selects RX9 yX9_noHouse yX9_noHouse ∈ fwW := fw_mem (i := 30) (by decide +kernel) rfl
theorem lk_s_X9_nextTo : Cond.selects RX9 yX9_nextTo yX9_nextTo ∈ fwW := fw_mem (i := 31) (by decide +kernel) rfl
theorem lk_s_X9_noOne : Cond.selects RX9 yX9_noOne yX9_noOne ∈ fwW := fw_mem (i := 32) (by decide +kernel) rfl
theorem lk_s_X9_of : Cond.selects RX9 yX9_of yX9_of ∈ fwW := fw_mem (i := 33) (by decide +kernel) rfl
theorem lk_s_X9_mayOf : Cond.selects RX9 yX9_mayOf yX9_mayOf ∈ fwW := fw_mem (i := 34) (by decide +kernel) rfl
theorem lk_s_X9_isThere : Cond.selects RX9 yX9_isThere yX9_isThere ∈ fwW := fw_mem (i := 35) (by decide +kernel) rfl
theorem lk_s_X9_goesTo : Cond.selects RX9 yX9_goesTo yX9_goesTo ∈ fwW := fw_mem (i := 36) (by decide +kernel) rfl
theorem lk_s_X9_open : Cond.selects RX9 yX9_open yX9_open ∈ fwW := fw_mem (i := 37) (by decide +kernel) rfl
theorem lk_s_X9_preyOf : Cond.selects RX9 yX9_preyOf yX9_preyOf ∈ fwW := fw_mem (i := 38) (by decide +kernel) rfl
theorem lk_s_X9_keeps : Cond.selects RX9 yX9_keeps yX9_keeps ∈ fwW := fw_mem (i := 39) (by decide +kernel) rfl
theorem lk_s_X9_visits : Cond.selects RX9 yX9_visits yX9_visits ∈ fwW := fw_mem (i := 40) (by decide +kernel) rfl
theorem lk_s_X9_dawns : Cond.selects RX9 yX9_dawns yX9_dawns ∈ fwW := fw_mem (i := 41) (by decide +kernel) rfl
theorem lk_s_X9_firstOf : Cond.selects RX9 yX9_firstOf yX9_firstOf ∈ fwW := fw_mem (i := 42) (by decide +kernel) rfl
theorem lk_s_X9_lineOf : Cond.selects RX9 yX9_lineOf yX9_lineOf ∈ fwW := fw_mem (i := 43) (by decide +kernel) rfl
theorem lk_s_X9_sees : Cond.selects RX9 yX9_sees yX9_sees ∈ fwW := fw_mem (i := 44) (by decide +kernel) rfl
theorem lk_s_X9_layTales : Cond.selects RX9 yX9_layTales yX9_layTales ∈ fwW := fw_mem (i := 45) (by decide +kernel) rfl
theorem lk_s_X9_there : Cond.selects RX9 yX9_there yX9_there ∈ fwW := fw_mem (i := 46) (by decide +kernel) rfl
theorem lk_s_X9_isTaken : Cond.selects RX9 yX9_isTaken yX9_isTaken ∈ fwW := fw_mem (i := 47) (by decide +kernel) rfl
theorem lk_s_X9_waysOf : Cond.selects RX9 yX9_waysOf yX9_waysOf ∈ fwW := fw_mem (i := 48) (by decide +kernel) rfl
theorem lk_s_X9_isSeen : Cond.selects RX9 yX9_isSeen yX9_isSeen ∈ fwW := fw_mem (i := 49) (by decide +kernel) rfl
theorem lk_s_X9_nextWays : Cond.selects RX9 yX9_nextWays yX9_nextWays ∈ fwW := fw_mem (i := 50) (by decide +kernel) rfl
theorem lk_s_X9_setsWith : Cond.selects RX9 yX9_setsWith yX9_setsWith ∈ fwW := fw_mem (i := 51) (by decide +kernel) rfl
theorem lk_s_X9_suspects : Cond.selects RX9 yX9_suspects yX9_suspects ∈ fwW := fw_mem (i := 52) (by decide +kernel) rfl
theorem lk_s_X9_areTwo : Cond.selects RX9 yX9_areTwo yX9_areTwo ∈ fwW := fw_mem (i := 53) (by decide +kernel) rfl
theorem lk_s_X9_voteOf : Cond.selects RX9 yX9_voteOf yX9_voteOf ∈ fwW := fw_mem (i := 54) (by decide +kernel) rfl
theorem lk_s_X9_waysNow : Cond.selects RX9 yX9_waysNow yX9_waysNow ∈ fwW := fw_mem (i := 55) (by decide +kernel) rfl
theorem lk_s_X9_goesBy : Cond.selects RX9 yX9_goesBy yX9_goesBy ∈ fwW := fw_mem (i := 56) (by decide +kernel) rfl
theorem lk_s_X9_secondOf : Cond.selects RX9 yX9_secondOf yX9_secondOf ∈ fwW := fw_mem (i := 57) (by decide +kernel) rfl
theorem lk_s_X9_wolves : Cond.selects RX9 yX9_wolves yX9_wolves ∈ fwW := fw_mem (i := 58) (by decide +kernel) rfl
theorem lk_z_L : Cond.initialized RL ∈ fwW := fw_mem (i := 59) (by decide +kernel) rfl
theorem lk_z_X8 : Cond.initialized RX8 ∈ fwW := fw_mem (i := 60) (by decide +kernel) rfl
theorem lk_z_X6 : Cond.initialized RX6 ∈ fwW := fw_mem (i := 61) (by decide +kernel) rfl
theorem lk_z_X7 : Cond.initialized RX7 ∈ fwW := fw_mem (i := 62) (by decide +kernel) rfl
theorem lk_z_X2 : Cond.initialized RX2 ∈ fwW := fw_mem (i := 63) (by decide +kernel) rfl
theorem lk_z_X0 : Cond.initialized RX0 ∈ fwW := fw_mem (i := 64) (by decide +kernel) rfl
theorem lk_z_X4 : Cond.initialized RX4 ∈ fwW := fw_mem (i := 65) (by decide +kernel) rfl
theorem lk_z_X5 : Cond.initialized RX5 ∈ fwW := fw_mem (i := 66) (by decide +kernel) rfl
theorem lk_z_X1 : Cond.initialized RX1 ∈ fwW := fw_mem (i := 67) (by decide +kernel) rfl
theorem lk_z_X9 : Cond.initialized RX9 ∈ fwW := fw_mem (i := 68) (by decide +kernel) rfl
theorem lk_z_X3 : Cond.initialized RX3 ∈ fwW := fw_mem (i := 69) (by decide +kernel) rfl
theorem lk_z_J6 : Cond.initialized RJ6 ∈ fwW := fw_mem (i := 70) (by decide +kernel) rfl
theorem lk_z_J9 : Cond.initialized RJ9 ∈ fwW := fw_mem (i := 71) (by decide +kernel) rfl
theorem lk_o_L_7 : Cond.classLink RL 7 RX8 ∈ fwW := fw_mem (i := 72) (by decide +kernel) rfl
theorem lk_b_X8 : Cond.instantiable RX8 11 ∈ fwW := fw_mem (i := 73) (by decide +kernel) rfl
theorem lk_m_L_9 : Cond.methodLink RL 9 yX8_init ∈ fwW := fw_mem (i := 74) (by decide +kernel) rfl
theorem lk_i_X8_init : Cond.instanceMethod yX8_init ∈ fwW := fw_mem (i := 75) (by decide +kernel) rfl
theorem lk_c_X8_init : Cond.code yX8_init cX8_init 1 (none) ∈ fwW := fw_mem (i := 76) (by decide +kernel) rfl
theorem lk_m_X8_1 : Cond.methodLink RX8 1 objectInit ∈ fwW := fw_mem (i := 77) (by decide +kernel) rfl
theorem lk_i_O_init : Cond.instanceMethod objectInit ∈ fwW := fw_mem (i := 78) (by decide +kernel) rfl
theorem lk_c_O_init : Cond.code objectInit ⟨#[0xb1]⟩ 1 (none) ∈ fwW := fw_mem (i := 79) (by decide +kernel) rfl
theorem lk_o_X8_7 : Cond.classLink RX8 7 RX6 ∈ fwW := fw_mem (i := 80) (by decide +kernel) rfl
theorem lk_b_X6 : Cond.instantiable RX6 2 ∈ fwW := fw_mem (i := 81) (by decide +kernel) rfl
theorem lk_n_X8_9 : Cond.methodLinkNest RX8 9 yX6_init "FullMoonWho" ∈ fwN := fn_mem (i := 82) (by decide +kernel) rfl
theorem lk_i_X6_init : Cond.instanceMethod yX6_init ∈ fwW := fw_mem (i := 83) (by decide +kernel) rfl
theorem lk_c_X6_init : Cond.code yX6_init cX6_init 1 (none) ∈ fwW := fw_mem (i := 84) (by decide +kernel) rfl
theorem lk_m_X6_3 : Cond.methodLink RX6 3 objectInit ∈ fwW := fw_mem (i := 85) (by decide +kernel) rfl
theorem lk_f_X6_9 : Cond.fieldLink RX6 9 "FullMoonWho$Text" "bytes" "[B" ∈ fwW := fw_mem (i := 86) (by decide +kernel) rfl
theorem lk_f_X6_15 : Cond.fieldLink RX6 15 "FullMoonWho$Text" "length" "I" ∈ fwW := fw_mem (i := 87) (by decide +kernel) rfl
theorem lk_g_X8_77 : Cond.fieldLinkNest RX8 77 "FullMoonWho$Text" "length" "I" "FullMoonWho" ∈ fwN := fn_mem (i := 88) (by decide +kernel) rfl
theorem lk_g_X3_38 : Cond.fieldLinkNest RX3 38 "FullMoonWho$Text" "length" "I" "FullMoonWho" ∈ fwN := fn_mem (i := 89) (by decide +kernel) rfl
theorem lk_y_X6_bytes : Cond.laysFinal RX6 RX6 "bytes" "[B" ∈ fwW := fw_mem (i := 90) (by decide +kernel) rfl
theorem lk_y_X6_length : Cond.lays RX6 RX6 "length" "I" ∈ fwW := fw_mem (i := 92) (by decide +kernel) rfl
theorem lk_a_byte : Cond.arrayClass .byte ∈ fwW := fw_mem (i := 95) (by decide +kernel) rfl
theorem lk_o_X8_16 : Cond.classLink RX8 16 RX7 ∈ fwW := fw_mem (i := 96) (by decide +kernel) rfl
theorem lk_b_X7 : Cond.instantiable RX7 11 ∈ fwW := fw_mem (i := 97) (by decide +kernel) rfl
theorem lk_n_X8_18 : Cond.methodLinkNest RX8 18 yX7_init "FullMoonWho" ∈ fwN := fn_mem (i := 98) (by decide +kernel) rfl
theorem lk_i_X7_init : Cond.instanceMethod yX7_init ∈ fwW := fw_mem (i := 99) (by decide +kernel) rfl
theorem lk_c_X7_init : Cond.code yX7_init cX7_init 1 (none) ∈ fwW := fw_mem (i := 100) (by decide +kernel) rfl
theorem lk_m_X7_3 : Cond.methodLink RX7 3 objectInit ∈ fwW := fw_mem (i := 101) (by decide +kernel) rfl
theorem lk_f_X7_9 : Cond.fieldLink RX7 9 "FullMoonWho$Village" "houses" "I" ∈ fwW := fw_mem (i := 102) (by decide +kernel) rfl
theorem lk_g_X3_57 : Cond.fieldLinkNest RX3 57 "FullMoonWho$Village" "houses" "I" "FullMoonWho" ∈ fwN := fn_mem (i := 103) (by decide +kernel) rfl
theorem lk_g_X5_80 : Cond.fieldLinkNest RX5 80 "FullMoonWho$Village" "houses" "I" "FullMoonWho" ∈ fwN := fn_mem (i := 104) (by decide +kernel) rfl
theorem lk_g_X2_56 : Cond.fieldLinkNest RX2 56 "FullMoonWho$Village" "houses" "I" "FullMoonWho" ∈ fwN := fn_mem (i := 105) (by decide +kernel) rfl
theorem lk_g_X8_101 : Cond.fieldLinkNest RX8 101 "FullMoonWho$Village" "houses" "I" "FullMoonWho" ∈ fwN := fn_mem (i := 106) (by decide +kernel) rfl
theorem lk_f_X7_15 : Cond.fieldLink RX7 15 "FullMoonWho$Village" "people" "I" ∈ fwW := fw_mem (i := 107) (by decide +kernel) rfl
theorem lk_g_X5_36 : Cond.fieldLinkNest RX5 36 "FullMoonWho$Village" "people" "I" "FullMoonWho" ∈ fwN := fn_mem (i := 108) (by decide +kernel) rfl
theorem lk_g_X1_53 : Cond.fieldLinkNest RX1 53 "FullMoonWho$Village" "people" "I" "FullMoonWho" ∈ fwN := fn_mem (i := 109) (by decide +kernel) rfl
theorem lk_g_X2_49 : Cond.fieldLinkNest RX2 49 "FullMoonWho$Village" "people" "I" "FullMoonWho" ∈ fwN := fn_mem (i := 110) (by decide +kernel) rfl
theorem lk_g_X8_104 : Cond.fieldLinkNest RX8 104 "FullMoonWho$Village" "people" "I" "FullMoonWho" ∈ fwN := fn_mem (i := 111) (by decide +kernel) rfl
theorem lk_g_X3_82 : Cond.fieldLinkNest RX3 82 "FullMoonWho$Village" "people" "I" "FullMoonWho" ∈ fwN := fn_mem (i := 112) (by decide +kernel) rfl
theorem lk_f_X7_18 : Cond.fieldLink RX7 18 "FullMoonWho$Village" "pathCount" "I" ∈ fwW := fw_mem (i := 113) (by decide +kernel) rfl
theorem lk_g_X8_303 : Cond.fieldLinkNest RX8 303 "FullMoonWho$Village" "pathCount" "I" "FullMoonWho" ∈ fwN := fn_mem (i := 114) (by decide +kernel) rfl
theorem lk_f_X7_21 : Cond.fieldLink RX7 21 "FullMoonWho$Village" "paths" "J" ∈ fwW := fw_mem (i := 115) (by decide +kernel) rfl
theorem lk_g_X3_70 : Cond.fieldLinkNest RX3 70 "FullMoonWho$Village" "paths" "J" "FullMoonWho" ∈ fwN := fn_mem (i := 116) (by decide +kernel) rfl
theorem lk_g_X8_128 : Cond.fieldLinkNest RX8 128 "FullMoonWho$Village" "paths" "J" "FullMoonWho" ∈ fwN := fn_mem (i := 117) (by decide +kernel) rfl
theorem lk_g_X2_73 : Cond.fieldLinkNest RX2 73 "FullMoonWho$Village" "paths" "J" "FullMoonWho" ∈ fwN := fn_mem (i := 118) (by decide +kernel) rfl
theorem lk_f_X7_25 : Cond.fieldLink RX7 25 "FullMoonWho$Village" "wells" "J" ∈ fwW := fw_mem (i := 119) (by decide +kernel) rfl
theorem lk_g_X5_97 : Cond.fieldLinkNest RX5 97 "FullMoonWho$Village" "wells" "J" "FullMoonWho" ∈ fwN := fn_mem (i := 120) (by decide +kernel) rfl
theorem lk_g_X8_131 : Cond.fieldLinkNest RX8 131 "FullMoonWho$Village" "wells" "J" "FullMoonWho" ∈ fwN := fn_mem (i := 121) (by decide +kernel) rfl
theorem lk_g_X2_101 : Cond.fieldLinkNest RX2 101 "FullMoonWho$Village" "wells" "J" "FullMoonWho" ∈ fwN := fn_mem (i := 122) (by decide +kernel) rfl
theorem lk_f_X7_28 : Cond.fieldLink RX7 28 "FullMoonWho$Village" "homes" "J" ∈ fwW := fw_mem (i := 123) (by decide +kernel) rfl
theorem lk_g_X1_74 : Cond.fieldLinkNest RX1 74 "FullMoonWho$Village" "homes" "J" "FullMoonWho" ∈ fwN := fn_mem (i := 124) (by decide +kernel) rfl
theorem lk_g_X5_100 : Cond.fieldLinkNest RX5 100 "FullMoonWho$Village" "homes" "J" "FullMoonWho" ∈ fwN := fn_mem (i := 125) (by decide +kernel) rfl
theorem lk_g_X8_137 : Cond.fieldLinkNest RX8 137 "FullMoonWho$Village" "homes" "J" "FullMoonWho" ∈ fwN := fn_mem (i := 126) (by decide +kernel) rfl
theorem lk_g_X2_66 : Cond.fieldLinkNest RX2 66 "FullMoonWho$Village" "homes" "J" "FullMoonWho" ∈ fwN := fn_mem (i := 127) (by decide +kernel) rfl
theorem lk_f_X7_31 : Cond.fieldLink RX7 31 "FullMoonWho$Village" "kin" "J" ∈ fwW := fw_mem (i := 128) (by decide +kernel) rfl
theorem lk_g_X3_89 : Cond.fieldLinkNest RX3 89 "FullMoonWho$Village" "kin" "J" "FullMoonWho" ∈ fwN := fn_mem (i := 129) (by decide +kernel) rfl
theorem lk_g_X8_159 : Cond.fieldLinkNest RX8 159 "FullMoonWho$Village" "kin" "J" "FullMoonWho" ∈ fwN := fn_mem (i := 130) (by decide +kernel) rfl
theorem lk_g_X2_90 : Cond.fieldLinkNest RX2 90 "FullMoonWho$Village" "kin" "J" "FullMoonWho" ∈ fwN := fn_mem (i := 131) (by decide +kernel) rfl
theorem lk_f_X7_34 : Cond.fieldLink RX7 34 "FullMoonWho$Village" "sheep" "J" ∈ fwW := fw_mem (i := 132) (by decide +kernel) rfl
theorem lk_g_X2_48 : Cond.fieldLinkNest RX2 48 "FullMoonWho$Village" "sheep" "J" "FullMoonWho" ∈ fwN := fn_mem (i := 133) (by decide +kernel) rfl
theorem lk_f_X7_37 : Cond.fieldLink RX7 37 "FullMoonWho$Village" "bolted" "I" ∈ fwW := fw_mem (i := 134) (by decide +kernel) rfl
theorem lk_g_X2_46 : Cond.fieldLinkNest RX2 46 "FullMoonWho$Village" "bolted" "I" "FullMoonWho" ∈ fwN := fn_mem (i := 135) (by decide +kernel) rfl
theorem lk_f_X7_40 : Cond.fieldLink RX7 40 "FullMoonWho$Village" "barred" "I" ∈ fwW := fw_mem (i := 136) (by decide +kernel) rfl
theorem lk_g_X2_47 : Cond.fieldLinkNest RX2 47 "FullMoonWho$Village" "barred" "I" "FullMoonWho" ∈ fwN := fn_mem (i := 137) (by decide +kernel) rfl
theorem lk_f_X7_43 : Cond.fieldLink RX7 43 "FullMoonWho$Village" "wolves" "I" ∈ fwW := fw_mem (i := 138) (by decide +kernel) rfl
theorem lk_g_X2_43 : Cond.fieldLinkNest RX2 43 "FullMoonWho$Village" "wolves" "I" "FullMoonWho" ∈ fwN := fn_mem (i := 139) (by decide +kernel) rfl
theorem lk_y_X7_houses : Cond.lays RX7 RX7 "houses" "I" ∈ fwW := fw_mem (i := 140) (by decide +kernel) rfl
theorem lk_y_X7_people : Cond.lays RX7 RX7 "people" "I" ∈ fwW := fw_mem (i := 142) (by decide +kernel) rfl
theorem lk_y_X7_pathCount : Cond.lays RX7 RX7 "pathCount" "I" ∈ fwW := fw_mem (i := 144) (by decide +kernel) rfl
theorem lk_y_X7_paths : Cond.lays RX7 RX7 "paths" "J" ∈ fwW := fw_mem (i := 146) (by decide +kernel) rfl
theorem lk_y_X7_wells : Cond.lays RX7 RX7 "wells" "J" ∈ fwW := fw_mem (i := 148) (by decide +kernel) rfl
theorem lk_y_X7_homes : Cond.lays RX7 RX7 "homes" "J" ∈ fwW := fw_mem (i := 150) (by decide +kernel) rfl
theorem lk_y_X7_kin : Cond.lays RX7 RX7 "kin" "J" ∈ fwW := fw_mem (i := 152) (by decide +kernel) rfl
theorem lk_y_X7_sheep : Cond.lays RX7 RX7 "sheep" "J" ∈ fwW := fw_mem (i := 154) (by decide +kernel) rfl
theorem lk_y_X7_bolted : Cond.lays RX7 RX7 "bolted" "I" ∈ fwW := fw_mem (i := 156) (by decide +kernel) rfl
theorem lk_y_X7_barred : Cond.lays RX7 RX7 "barred" "I" ∈ fwW := fw_mem (i := 158) (by decide +kernel) rfl
theorem lk_y_X7_wolves : Cond.lays RX7 RX7 "wolves" "I" ∈ fwW := fw_mem (i := 160) (by decide +kernel) rfl
theorem lk_o_X8_23 : Cond.classLink RX8 23 RX2 ∈ fwW := fw_mem (i := 163) (by decide +kernel) rfl
theorem lk_b_X2 : Cond.instantiable RX2 10 ∈ fwW := fw_mem (i := 164) (by decide +kernel) rfl
theorem lk_n_X8_25 : Cond.methodLinkNest RX8 25 yX2_init "FullMoonWho" ∈ fwN := fn_mem (i := 165) (by decide +kernel) rfl
theorem lk_i_X2_init : Cond.instanceMethod yX2_init ∈ fwW := fw_mem (i := 166) (by decide +kernel) rfl
theorem lk_c_X2_init : Cond.code yX2_init cX2_init 1 (none) ∈ fwW := fw_mem (i := 167) (by decide +kernel) rfl
theorem lk_m_X2_3 : Cond.methodLink RX2 3 objectInit ∈ fwW := fw_mem (i := 168) (by decide +kernel) rfl
theorem lk_f_X2_9 : Cond.fieldLink RX2 9 "FullMoonWho$Night" "number" "I" ∈ fwW := fw_mem (i := 169) (by decide +kernel) rfl
theorem lk_g_X8_297 : Cond.fieldLinkNest RX8 297 "FullMoonWho$Night" "number" "I" "FullMoonWho" ∈ fwN := fn_mem (i := 170) (by decide +kernel) rfl
theorem lk_f_X2_15 : Cond.fieldLink RX2 15 "FullMoonWho$Night" "wolves" "I" ∈ fwW := fw_mem (i := 171) (by decide +kernel) rfl
theorem lk_g_X1_40 : Cond.fieldLinkNest RX1 40 "FullMoonWho$Night" "wolves" "I" "FullMoonWho" ∈ fwN := fn_mem (i := 172) (by decide +kernel) rfl
theorem lk_g_X8_140 : Cond.fieldLinkNest RX8 140 "FullMoonWho$Night" "wolves" "I" "FullMoonWho" ∈ fwN := fn_mem (i := 173) (by decide +kernel) rfl
theorem lk_f_X2_18 : Cond.fieldLink RX2 18 "FullMoonWho$Night" "bitten" "I" ∈ fwW := fw_mem (i := 174) (by decide +kernel) rfl
theorem lk_g_X1_44 : Cond.fieldLinkNest RX1 44 "FullMoonWho$Night" "bitten" "I" "FullMoonWho" ∈ fwN := fn_mem (i := 175) (by decide +kernel) rfl
theorem lk_g_X8_147 : Cond.fieldLinkNest RX8 147 "FullMoonWho$Night" "bitten" "I" "FullMoonWho" ∈ fwN := fn_mem (i := 176) (by decide +kernel) rfl
theorem lk_f_X2_21 : Cond.fieldLink RX2 21 "FullMoonWho$Night" "gone" "I" ∈ fwW := fw_mem (i := 177) (by decide +kernel) rfl
theorem lk_g_X8_150 : Cond.fieldLinkNest RX8 150 "FullMoonWho$Night" "gone" "I" "FullMoonWho" ∈ fwN := fn_mem (i := 178) (by decide +kernel) rfl
theorem lk_f_X2_24 : Cond.fieldLink RX2 24 "FullMoonWho$Night" "out" "I" ∈ fwW := fw_mem (i := 179) (by decide +kernel) rfl
theorem lk_g_X8_153 : Cond.fieldLinkNest RX8 153 "FullMoonWho$Night" "out" "I" "FullMoonWho" ∈ fwN := fn_mem (i := 180) (by decide +kernel) rfl
theorem lk_f_X2_27 : Cond.fieldLink RX2 27 "FullMoonWho$Night" "bolted" "I" ∈ fwW := fw_mem (i := 181) (by decide +kernel) rfl
theorem lk_f_X2_30 : Cond.fieldLink RX2 30 "FullMoonWho$Night" "barred" "I" ∈ fwW := fw_mem (i := 182) (by decide +kernel) rfl
theorem lk_g_X8_316 : Cond.fieldLinkNest RX8 316 "FullMoonWho$Night" "barred" "I" "FullMoonWho" ∈ fwN := fn_mem (i := 183) (by decide +kernel) rfl
theorem lk_f_X2_33 : Cond.fieldLink RX2 33 "FullMoonWho$Night" "sheep" "J" ∈ fwW := fw_mem (i := 184) (by decide +kernel) rfl
theorem lk_g_X8_111 : Cond.fieldLinkNest RX8 111 "FullMoonWho$Night" "sheep" "J" "FullMoonWho" ∈ fwN := fn_mem (i := 185) (by decide +kernel) rfl
theorem lk_f_X2_37 : Cond.fieldLink RX2 37 "FullMoonWho$Night" "tracks" "J" ∈ fwW := fw_mem (i := 186) (by decide +kernel) rfl
theorem lk_g_X8_122 : Cond.fieldLinkNest RX8 122 "FullMoonWho$Night" "tracks" "J" "FullMoonWho" ∈ fwN := fn_mem (i := 187) (by decide +kernel) rfl
theorem lk_f_X2_40 : Cond.fieldLink RX2 40 "FullMoonWho$Night" "biters" "J" ∈ fwW := fw_mem (i := 188) (by decide +kernel) rfl
theorem lk_y_X2_number : Cond.lays RX2 RX2 "number" "I" ∈ fwW := fw_mem (i := 189) (by decide +kernel) rfl
theorem lk_y_X2_wolves : Cond.lays RX2 RX2 "wolves" "I" ∈ fwW := fw_mem (i := 191) (by decide +kernel) rfl
theorem lk_y_X2_bitten : Cond.lays RX2 RX2 "bitten" "I" ∈ fwW := fw_mem (i := 193) (by decide +kernel) rfl
theorem lk_y_X2_gone : Cond.lays RX2 RX2 "gone" "I" ∈ fwW := fw_mem (i := 195) (by decide +kernel) rfl
theorem lk_y_X2_out : Cond.lays RX2 RX2 "out" "I" ∈ fwW := fw_mem (i := 197) (by decide +kernel) rfl
theorem lk_y_X2_bolted : Cond.lays RX2 RX2 "bolted" "I" ∈ fwW := fw_mem (i := 199) (by decide +kernel) rfl
theorem lk_y_X2_barred : Cond.lays RX2 RX2 "barred" "I" ∈ fwW := fw_mem (i := 201) (by decide +kernel) rfl
theorem lk_y_X2_sheep : Cond.lays RX2 RX2 "sheep" "J" ∈ fwW := fw_mem (i := 203) (by decide +kernel) rfl
theorem lk_y_X2_tracks : Cond.lays RX2 RX2 "tracks" "J" ∈ fwW := fw_mem (i := 205) (by decide +kernel) rfl
theorem lk_y_X2_biters : Cond.lays RX2 RX2 "biters" "J" ∈ fwW := fw_mem (i := 207) (by decide +kernel) rfl
theorem lk_o_X8_33 : Cond.classLink RX8 33 RX0 ∈ fwW := fw_mem (i := 210) (by decide +kernel) rfl
theorem lk_b_X0 : Cond.instantiable RX0 3 ∈ fwW := fw_mem (i := 211) (by decide +kernel) rfl
theorem lk_m_X8_35 : Cond.methodLink RX8 35 yX0_init ∈ fwW := fw_mem (i := 212) (by decide +kernel) rfl
theorem lk_i_X0_init : Cond.instanceMethod yX0_init ∈ fwW := fw_mem (i := 213) (by decide +kernel) rfl
theorem lk_c_X0_init : Cond.code yX0_init cX0_init 1 (none) ∈ fwW := fw_mem (i := 214) (by decide +kernel) rfl
theorem lk_m_X0_3 : Cond.methodLink RX0 3 objectInit ∈ fwW := fw_mem (i := 215) (by decide +kernel) rfl
theorem lk_o_X0_9 : Cond.classLink RX0 9 RX2 ∈ fwW := fw_mem (i := 216) (by decide +kernel) rfl
theorem lk_v : Cond.arrayOver (.object RX2) ∈ lw_tbl := List.mem_of_getElem? (i := 217) (by decide +kernel)
theorem lk_n_X0_24 : Cond.methodLinkNest RX0 24 yX8_fillNights "FullMoonWho" ∈ fwN := fn_mem (i := 218) (by decide +kernel) rfl
theorem lk_t_X8_fillNights : Cond.static yX8_fillNights ∈ fwW := fw_mem (i := 219) (by decide +kernel) rfl
theorem lk_c_X8_fillNights : Cond.code yX8_fillNights cX8_fillNights 2 (none) ∈ fwW := fw_mem (i := 220) (by decide +kernel) rfl
theorem lk_f_X0_11 : Cond.fieldLink RX0 11 "FullMoonWho$Acts" "before" "[LFullMoonWho$Night;" ∈ fwW := fw_mem (i := 221) (by decide +kernel) rfl
theorem lk_f_X0_17 : Cond.fieldLink RX0 17 "FullMoonWho$Acts" "start" "I" ∈ fwW := fw_mem (i := 222) (by decide +kernel) rfl
theorem lk_f_X0_21 : Cond.fieldLink RX0 21 "FullMoonWho$Acts" "count" "I" ∈ fwW := fw_mem (i := 223) (by decide +kernel) rfl
theorem lk_g_X8_195 : Cond.fieldLinkNest RX8 195 "FullMoonWho$Acts" "count" "I" "FullMoonWho" ∈ fwN := fn_mem (i := 224) (by decide +kernel) rfl
theorem lk_y_X0_before : Cond.laysFinal RX0 RX0 "before" "[LFullMoonWho$Night;" ∈ fwW := fw_mem (i := 225) (by decide +kernel) rfl
theorem lk_y_X0_start : Cond.lays RX0 RX0 "start" "I" ∈ fwW := fw_mem (i := 227) (by decide +kernel) rfl
theorem lk_y_X0_count : Cond.lays RX0 RX0 "count" "I" ∈ fwW := fw_mem (i := 229) (by decide +kernel) rfl
theorem lk_o_X8_48 : Cond.classLink RX8 48 RX4 ∈ fwW := fw_mem (i := 232) (by decide +kernel) rfl
theorem lk_b_X4 : Cond.instantiable RX4 5 ∈ fwW := fw_mem (i := 233) (by decide +kernel) rfl
theorem lk_n_X8_50 : Cond.methodLinkNest RX8 50 yX4_init "FullMoonWho" ∈ fwN := fn_mem (i := 234) (by decide +kernel) rfl
theorem lk_i_X4_init : Cond.instanceMethod yX4_init ∈ fwW := fw_mem (i := 235) (by decide +kernel) rfl
theorem lk_c_X4_init : Cond.code yX4_init cX4_init 1 (none) ∈ fwW := fw_mem (i := 236) (by decide +kernel) rfl
theorem lk_m_X4_3 : Cond.methodLink RX4 3 objectInit ∈ fwW := fw_mem (i := 237) (by decide +kernel) rfl
theorem lk_f_X4_9 : Cond.fieldLink RX4 9 "FullMoonWho$Sights" "kinds" "[I" ∈ fwW := fw_mem (i := 238) (by decide +kernel) rfl
theorem lk_f_X4_15 : Cond.fieldLink RX4 15 "FullMoonWho$Sights" "moons" "[I" ∈ fwW := fw_mem (i := 239) (by decide +kernel) rfl
theorem lk_f_X4_18 : Cond.fieldLink RX4 18 "FullMoonWho$Sights" "places" "[I" ∈ fwW := fw_mem (i := 240) (by decide +kernel) rfl
theorem lk_f_X4_21 : Cond.fieldLink RX4 21 "FullMoonWho$Sights" "values" "[I" ∈ fwW := fw_mem (i := 241) (by decide +kernel) rfl
theorem lk_f_X4_24 : Cond.fieldLink RX4 24 "FullMoonWho$Sights" "count" "I" ∈ fwW := fw_mem (i := 242) (by decide +kernel) rfl
theorem lk_g_X5_57 : Cond.fieldLinkNest RX5 57 "FullMoonWho$Sights" "count" "I" "FullMoonWho" ∈ fwN := fn_mem (i := 243) (by decide +kernel) rfl
theorem lk_g_X8_219 : Cond.fieldLinkNest RX8 219 "FullMoonWho$Sights" "count" "I" "FullMoonWho" ∈ fwN := fn_mem (i := 244) (by decide +kernel) rfl
theorem lk_y_X4_kinds : Cond.laysFinal RX4 RX4 "kinds" "[I" ∈ fwW := fw_mem (i := 245) (by decide +kernel) rfl
theorem lk_y_X4_moons : Cond.laysFinal RX4 RX4 "moons" "[I" ∈ fwW := fw_mem (i := 247) (by decide +kernel) rfl
theorem lk_y_X4_places : Cond.laysFinal RX4 RX4 "places" "[I" ∈ fwW := fw_mem (i := 249) (by decide +kernel) rfl
theorem lk_y_X4_values : Cond.laysFinal RX4 RX4 "values" "[I" ∈ fwW := fw_mem (i := 251) (by decide +kernel) rfl
theorem lk_y_X4_count : Cond.lays RX4 RX4 "count" "I" ∈ fwW := fw_mem (i := 253) (by decide +kernel) rfl
theorem lk_a_int : Cond.arrayClass .int ∈ fwW := fw_mem (i := 256) (by decide +kernel) rfl
theorem lk_o_X8_55 : Cond.classLink RX8 55 RX5 ∈ fwW := fw_mem (i := 257) (by decide +kernel) rfl
theorem lk_b_X5 : Cond.instantiable RX5 7 ∈ fwW := fw_mem (i := 258) (by decide +kernel) rfl
theorem lk_n_X8_57 : Cond.methodLinkNest RX8 57 yX5_init "FullMoonWho" ∈ fwN := fn_mem (i := 259) (by decide +kernel) rfl
theorem lk_i_X5_init : Cond.instanceMethod yX5_init ∈ fwW := fw_mem (i := 260) (by decide +kernel) rfl
theorem lk_c_X5_init : Cond.code yX5_init cX5_init 1 (none) ∈ fwW := fw_mem (i := 261) (by decide +kernel) rfl
theorem lk_m_X5_3 : Cond.methodLink RX5 3 objectInit ∈ fwW := fw_mem (i := 262) (by decide +kernel) rfl
theorem lk_f_X5_9 : Cond.fieldLink RX5 9 "FullMoonWho$Tales" "fits" "[J" ∈ fwW := fw_mem (i := 263) (by decide +kernel) rfl
theorem lk_f_X5_15 : Cond.fieldLink RX5 15 "FullMoonWho$Tales" "left" "[I" ∈ fwW := fw_mem (i := 264) (by decide +kernel) rfl
theorem lk_f_X5_19 : Cond.fieldLink RX5 19 "FullMoonWho$Tales" "needs" "[I" ∈ fwW := fw_mem (i := 265) (by decide +kernel) rfl
theorem lk_f_X5_22 : Cond.fieldLink RX5 22 "FullMoonWho$Tales" "people" "I" ∈ fwW := fw_mem (i := 266) (by decide +kernel) rfl
theorem lk_f_X5_26 : Cond.fieldLink RX5 26 "FullMoonWho$Tales" "away" "I" ∈ fwW := fw_mem (i := 267) (by decide +kernel) rfl
theorem lk_f_X5_29 : Cond.fieldLink RX5 29 "FullMoonWho$Tales" "unseenWays" "J" ∈ fwW := fw_mem (i := 268) (by decide +kernel) rfl
theorem lk_f_X5_33 : Cond.fieldLink RX5 33 "FullMoonWho$Tales" "seenHouses" "J" ∈ fwW := fw_mem (i := 269) (by decide +kernel) rfl
theorem lk_y_X5_fits : Cond.laysFinal RX5 RX5 "fits" "[J" ∈ fwW := fw_mem (i := 270) (by decide +kernel) rfl
theorem lk_y_X5_left : Cond.laysFinal RX5 RX5 "left" "[I" ∈ fwW := fw_mem (i := 272) (by decide +kernel) rfl
theorem lk_y_X5_needs : Cond.laysFinal RX5 RX5 "needs" "[I" ∈ fwW := fw_mem (i := 274) (by decide +kernel) rfl
theorem lk_y_X5_people : Cond.lays RX5 RX5 "people" "I" ∈ fwW := fw_mem (i := 276) (by decide +kernel) rfl
theorem lk_y_X5_away : Cond.lays RX5 RX5 "away" "I" ∈ fwW := fw_mem (i := 278) (by decide +kernel) rfl
theorem lk_y_X5_unseenWays : Cond.lays RX5 RX5 "unseenWays" "J" ∈ fwW := fw_mem (i := 280) (by decide +kernel) rfl
theorem lk_y_X5_seenHouses : Cond.lays RX5 RX5 "seenHouses" "J" ∈ fwW := fw_mem (i := 282) (by decide +kernel) rfl
theorem lk_a_long : Cond.arrayClass .long ∈ fwW := fw_mem (i := 285) (by decide +kernel) rfl
theorem lk_o_X8_62 : Cond.classLink RX8 62 RX1 ∈ fwW := fw_mem (i := 286) (by decide +kernel) rfl
theorem lk_b_X1 : Cond.instantiable RX1 2 ∈ fwW := fw_mem (i := 287) (by decide +kernel) rfl
theorem lk_m_X8_64 : Cond.methodLink RX8 64 yX1_init ∈ fwW := fw_mem (i := 288) (by decide +kernel) rfl
theorem lk_i_X1_init : Cond.instanceMethod yX1_init ∈ fwW := fw_mem (i := 289) (by decide +kernel) rfl
theorem lk_c_X1_init : Cond.code yX1_init cX1_init 1 (none) ∈ fwW := fw_mem (i := 290) (by decide +kernel) rfl
theorem lk_m_X1_3 : Cond.methodLink RX1 3 objectInit ∈ fwW := fw_mem (i := 291) (by decide +kernel) rfl
theorem lk_o_X1_9 : Cond.classLink RX1 9 RX2 ∈ fwW := fw_mem (i := 292) (by decide +kernel) rfl
theorem lk_o_X1_17 : Cond.classLink RX1 17 RX7 ∈ fwW := fw_mem (i := 293) (by decide +kernel) rfl
theorem lk_n_X1_19 : Cond.methodLinkNest RX1 19 yX7_init "FullMoonWho" ∈ fwN := fn_mem (i := 294) (by decide +kernel) rfl
theorem lk_n_X1_24 : Cond.methodLinkNest RX1 24 yX8_fillNights "FullMoonWho" ∈ fwN := fn_mem (i := 295) (by decide +kernel) rfl
theorem lk_f_X1_11 : Cond.fieldLink RX1 11 "FullMoonWho$Chances" "steps" "[LFullMoonWho$Night;" ∈ fwW := fw_mem (i := 296) (by decide +kernel) rfl
theorem lk_f_X1_20 : Cond.fieldLink RX1 20 "FullMoonWho$Chances" "village" "LFullMoonWho$Village;" ∈ fwW := fw_mem (i := 297) (by decide +kernel) rfl
theorem lk_y_X1_steps : Cond.laysFinal RX1 RX1 "steps" "[LFullMoonWho$Night;" ∈ fwW := fw_mem (i := 298) (by decide +kernel) rfl
theorem lk_y_X1_village : Cond.lays RX1 RX1 "village" "LFullMoonWho$Village;" ∈ fwW := fw_mem (i := 300) (by decide +kernel) rfl
theorem lk_m_X8_73 : Cond.methodLink RX8 73 yX8_fillNights ∈ fwW := fw_mem (i := 303) (by decide +kernel) rfl
theorem lk_f_X8_10 : Cond.fieldLink RX8 10 "FullMoonWho" "text" "LFullMoonWho$Text;" ∈ fwW := fw_mem (i := 304) (by decide +kernel) rfl
theorem lk_f_X8_19 : Cond.fieldLink RX8 19 "FullMoonWho" "village" "LFullMoonWho$Village;" ∈ fwW := fw_mem (i := 305) (by decide +kernel) rfl
theorem lk_f_X8_26 : Cond.fieldLink RX8 26 "FullMoonWho" "now" "LFullMoonWho$Night;" ∈ fwW := fw_mem (i := 306) (by decide +kernel) rfl
theorem lk_f_X8_30 : Cond.fieldLink RX8 30 "FullMoonWho" "thought" "LFullMoonWho$Night;" ∈ fwW := fw_mem (i := 307) (by decide +kernel) rfl
theorem lk_f_X8_36 : Cond.fieldLink RX8 36 "FullMoonWho" "acts" "LFullMoonWho$Acts;" ∈ fwW := fw_mem (i := 308) (by decide +kernel) rfl
theorem lk_f_X8_40 : Cond.fieldLink RX8 40 "FullMoonWho" "slots" "[LFullMoonWho$Night;" ∈ fwW := fw_mem (i := 309) (by decide +kernel) rfl
theorem lk_f_X8_44 : Cond.fieldLink RX8 44 "FullMoonWho" "keptSlots" "I" ∈ fwW := fw_mem (i := 310) (by decide +kernel) rfl
theorem lk_f_X8_51 : Cond.fieldLink RX8 51 "FullMoonWho" "sights" "LFullMoonWho$Sights;" ∈ fwW := fw_mem (i := 311) (by decide +kernel) rfl
theorem lk_f_X8_58 : Cond.fieldLink RX8 58 "FullMoonWho" "tales" "LFullMoonWho$Tales;" ∈ fwW := fw_mem (i := 312) (by decide +kernel) rfl
theorem lk_f_X8_65 : Cond.fieldLink RX8 65 "FullMoonWho" "chances" "LFullMoonWho$Chances;" ∈ fwW := fw_mem (i := 313) (by decide +kernel) rfl
theorem lk_f_X8_69 : Cond.fieldLink RX8 69 "FullMoonWho" "seed" "J" ∈ fwW := fw_mem (i := 314) (by decide +kernel) rfl
theorem lk_y_X8_text : Cond.laysFinal RX8 RX8 "text" "LFullMoonWho$Text;" ∈ fwW := fw_mem (i := 315) (by decide +kernel) rfl
theorem lk_y_X8_village : Cond.lays RX8 RX8 "village" "LFullMoonWho$Village;" ∈ fwW := fw_mem (i := 317) (by decide +kernel) rfl
theorem lk_y_X8_now : Cond.laysFinal RX8 RX8 "now" "LFullMoonWho$Night;" ∈ fwW := fw_mem (i := 319) (by decide +kernel) rfl
theorem lk_y_X8_thought : Cond.laysFinal RX8 RX8 "thought" "LFullMoonWho$Night;" ∈ fwW := fw_mem (i := 321) (by decide +kernel) rfl
theorem lk_y_X8_acts : Cond.laysFinal RX8 RX8 "acts" "LFullMoonWho$Acts;" ∈ fwW := fw_mem (i := 323) (by decide +kernel) rfl
theorem lk_y_X8_slots : Cond.laysFinal RX8 RX8 "slots" "[LFullMoonWho$Night;" ∈ fwW := fw_mem (i := 325) (by decide +kernel) rfl
theorem lk_y_X8_keptSlots : Cond.lays RX8 RX8 "keptSlots" "I" ∈ fwW := fw_mem (i := 327) (by decide +kernel) rfl
theorem lk_y_X8_sights : Cond.laysFinal RX8 RX8 "sights" "LFullMoonWho$Sights;" ∈ fwW := fw_mem (i := 329) (by decide +kernel) rfl
theorem lk_y_X8_tales : Cond.laysFinal RX8 RX8 "tales" "LFullMoonWho$Tales;" ∈ fwW := fw_mem (i := 331) (by decide +kernel) rfl
theorem lk_y_X8_chances : Cond.laysFinal RX8 RX8 "chances" "LFullMoonWho$Chances;" ∈ fwW := fw_mem (i := 333) (by decide +kernel) rfl
theorem lk_y_X8_seed : Cond.lays RX8 RX8 "seed" "J" ∈ fwW := fw_mem (i := 335) (by decide +kernel) rfl
theorem lk_m_L_15 : Cond.methodLink RL 15 yX8_write ∈ fwW := fw_mem (i := 338) (by decide +kernel) rfl
theorem lk_i_X8_write : Cond.instanceMethod yX8_write ∈ fwW := fw_mem (i := 339) (by decide +kernel) rfl
theorem lk_s_X8_write : Cond.selects RX8 yX8_write yX8_write ∈ fwW := fw_mem (i := 340) (by decide +kernel) rfl
theorem lk_c_X8_write : Cond.code yX8_write cX8_write 5 ((some .int)) ∈ fwW := fw_mem (i := 341) (by decide +kernel) rfl
theorem lk_m_X8_80 : Cond.methodLink RX8 80 yX6_append ∈ fwW := fw_mem (i := 342) (by decide +kernel) rfl
theorem lk_i_X6_append : Cond.instanceMethod yX6_append ∈ fwW := fw_mem (i := 343) (by decide +kernel) rfl
theorem lk_s_X6_append : Cond.selects RX6 yX6_append yX6_append ∈ fwW := fw_mem (i := 344) (by decide +kernel) rfl
theorem lk_c_X6_append : Cond.code yX6_append cX6_append 2 (none) ∈ fwW := fw_mem (i := 345) (by decide +kernel) rfl
theorem lk_m_L_20 : Cond.methodLink RL 20 yX8_wipe ∈ fwW := fw_mem (i := 346) (by decide +kernel) rfl
theorem lk_i_X8_wipe : Cond.instanceMethod yX8_wipe ∈ fwW := fw_mem (i := 347) (by decide +kernel) rfl
theorem lk_s_X8_wipe : Cond.selects RX8 yX8_wipe yX8_wipe ∈ fwW := fw_mem (i := 348) (by decide +kernel) rfl
theorem lk_c_X8_wipe : Cond.code yX8_wipe cX8_wipe 2 ((some .int)) ∈ fwW := fw_mem (i := 349) (by decide +kernel) rfl
theorem lk_m_L_25 : Cond.methodLink RL 25 yX8_fault ∈ fwW := fw_mem (i := 350) (by decide +kernel) rfl
theorem lk_i_X8_fault : Cond.instanceMethod yX8_fault ∈ fwW := fw_mem (i := 351) (by decide +kernel) rfl
theorem lk_s_X8_fault : Cond.selects RX8 yX8_fault yX8_fault ∈ fwW := fw_mem (i := 352) (by decide +kernel) rfl
theorem lk_c_X8_fault : Cond.code yX8_fault cX8_fault 1 ((some .int)) ∈ fwW := fw_mem (i := 353) (by decide +kernel) rfl
theorem lk_o_X8_84 : Cond.classLink RX8 84 RX3 ∈ fwW := fw_mem (i := 354) (by decide +kernel) rfl
theorem lk_b_X3 : Cond.instantiable RX3 5 ∈ fwW := fw_mem (i := 355) (by decide +kernel) rfl
theorem lk_m_X8_86 : Cond.methodLink RX8 86 yX3_init ∈ fwW := fw_mem (i := 356) (by decide +kernel) rfl
theorem lk_i_X3_init : Cond.instanceMethod yX3_init ∈ fwW := fw_mem (i := 357) (by decide +kernel) rfl
theorem lk_c_X3_init : Cond.code yX3_init cX3_init 2 (none) ∈ fwW := fw_mem (i := 358) (by decide +kernel) rfl
theorem lk_m_X3_3 : Cond.methodLink RX3 3 objectInit ∈ fwW := fw_mem (i := 359) (by decide +kernel) rfl
theorem lk_o_X3_9 : Cond.classLink RX3 9 RX7 ∈ fwW := fw_mem (i := 360) (by decide +kernel) rfl
theorem lk_n_X3_11 : Cond.methodLinkNest RX3 11 yX7_init "FullMoonWho" ∈ fwN := fn_mem (i := 361) (by decide +kernel) rfl
theorem lk_f_X3_28 : Cond.fieldLink RX3 28 "FullMoonWho$Reader" "text" "LFullMoonWho$Text;" ∈ fwW := fw_mem (i := 362) (by decide +kernel) rfl
theorem lk_f_X3_12 : Cond.fieldLink RX3 12 "FullMoonWho$Reader" "village" "LFullMoonWho$Village;" ∈ fwW := fw_mem (i := 363) (by decide +kernel) rfl
theorem lk_g_X8_93 : Cond.fieldLinkNest RX8 93 "FullMoonWho$Reader" "village" "LFullMoonWho$Village;" "FullMoonWho" ∈ fwN := fn_mem (i := 364) (by decide +kernel) rfl
theorem lk_f_X3_18 : Cond.fieldLink RX3 18 "FullMoonWho$Reader" "place" "I" ∈ fwW := fw_mem (i := 365) (by decide +kernel) rfl
theorem lk_f_X3_22 : Cond.fieldLink RX3 22 "FullMoonWho$Reader" "endA" "I" ∈ fwW := fw_mem (i := 366) (by decide +kernel) rfl
theorem lk_f_X3_25 : Cond.fieldLink RX3 25 "FullMoonWho$Reader" "endB" "I" ∈ fwW := fw_mem (i := 367) (by decide +kernel) rfl
theorem lk_y_X3_text : Cond.laysFinal RX3 RX3 "text" "LFullMoonWho$Text;" ∈ fwW := fw_mem (i := 368) (by decide +kernel) rfl
theorem lk_y_X3_village : Cond.laysFinal RX3 RX3 "village" "LFullMoonWho$Village;" ∈ fwW := fw_mem (i := 370) (by decide +kernel) rfl
theorem lk_y_X3_place : Cond.lays RX3 RX3 "place" "I" ∈ fwW := fw_mem (i := 372) (by decide +kernel) rfl
theorem lk_y_X3_endA : Cond.lays RX3 RX3 "endA" "I" ∈ fwW := fw_mem (i := 374) (by decide +kernel) rfl
theorem lk_y_X3_endB : Cond.lays RX3 RX3 "endB" "I" ∈ fwW := fw_mem (i := 376) (by decide +kernel) rfl
theorem lk_m_X8_89 : Cond.methodLink RX8 89 yX3_read ∈ fwW := fw_mem (i := 379) (by decide +kernel) rfl
theorem lk_i_X3_read : Cond.instanceMethod yX3_read ∈ fwW := fw_mem (i := 380) (by decide +kernel) rfl
theorem lk_s_X3_read : Cond.selects RX3 yX3_read yX3_read ∈ fwW := fw_mem (i := 381) (by decide +kernel) rfl
theorem lk_c_X3_read : Cond.code yX3_read cX3_read 2 ((some .int)) ∈ fwW := fw_mem (i := 382) (by decide +kernel) rfl
theorem lk_m_X3_32 : Cond.methodLink RX3 32 yX6_byteAt ∈ fwW := fw_mem (i := 383) (by decide +kernel) rfl
theorem lk_i_X6_byteAt : Cond.instanceMethod yX6_byteAt ∈ fwW := fw_mem (i := 384) (by decide +kernel) rfl
theorem lk_s_X6_byteAt : Cond.selects RX6 yX6_byteAt yX6_byteAt ∈ fwW := fw_mem (i := 385) (by decide +kernel) rfl
theorem lk_c_X6_byteAt : Cond.code yX6_byteAt cX6_byteAt 2 ((some .int)) ∈ fwW := fw_mem (i := 386) (by decide +kernel) rfl
theorem lk_m_X3_41 : Cond.methodLink RX3 41 yX3_readPart ∈ fwW := fw_mem (i := 387) (by decide +kernel) rfl
theorem lk_i_X3_readPart : Cond.instanceMethod yX3_readPart ∈ fwW := fw_mem (i := 389) (by decide +kernel) rfl
theorem lk_c_X3_readPart : Cond.code yX3_readPart cX3_readPart 1 ((some .boolean)) ∈ fwW := fw_mem (i := 390) (by decide +kernel) rfl
theorem lk_m_X3_45 : Cond.methodLink RX3 45 yX3_readHouse ∈ fwW := fw_mem (i := 391) (by decide +kernel) rfl
theorem lk_i_X3_readHouse : Cond.instanceMethod yX3_readHouse ∈ fwW := fw_mem (i := 393) (by decide +kernel) rfl
theorem lk_c_X3_readHouse : Cond.code yX3_readHouse cX3_readHouse 3 ((some .boolean)) ∈ fwW := fw_mem (i := 394) (by decide +kernel) rfl
theorem lk_n_X3_60 : Cond.methodLinkNest RX3 60 yX8_below "FullMoonWho" ∈ fwN := fn_mem (i := 395) (by decide +kernel) rfl
theorem lk_t_X8_below : Cond.static yX8_below ∈ fwW := fw_mem (i := 396) (by decide +kernel) rfl
theorem lk_c_X8_below : Cond.code yX8_below cX8_below 1 ((some .int)) ∈ fwW := fw_mem (i := 397) (by decide +kernel) rfl
theorem lk_m_X3_63 : Cond.methodLink RX3 63 yX3_figure ∈ fwW := fw_mem (i := 398) (by decide +kernel) rfl
theorem lk_i_X3_figure : Cond.instanceMethod yX3_figure ∈ fwW := fw_mem (i := 400) (by decide +kernel) rfl
theorem lk_c_X3_figure : Cond.code yX3_figure cX3_figure 3 ((some .int)) ∈ fwW := fw_mem (i := 401) (by decide +kernel) rfl
theorem lk_n_X3_103 : Cond.methodLinkNest RX3 103 yX8_has "FullMoonWho" ∈ fwN := fn_mem (i := 402) (by decide +kernel) rfl
theorem lk_t_X8_has : Cond.static yX8_has ∈ fwW := fw_mem (i := 403) (by decide +kernel) rfl
theorem lk_c_X8_has : Cond.code yX8_has cX8_has 2 ((some .boolean)) ∈ fwW := fw_mem (i := 404) (by decide +kernel) rfl
theorem lk_m_X3_66 : Cond.methodLink RX3 66 yX7_addHouse ∈ fwW := fw_mem (i := 405) (by decide +kernel) rfl
theorem lk_i_X7_addHouse : Cond.instanceMethod yX7_addHouse ∈ fwW := fw_mem (i := 406) (by decide +kernel) rfl
theorem lk_s_X7_addHouse : Cond.selects RX7 yX7_addHouse yX7_addHouse ∈ fwW := fw_mem (i := 407) (by decide +kernel) rfl
theorem lk_c_X7_addHouse : Cond.code yX7_addHouse cX7_addHouse 3 (none) ∈ fwW := fw_mem (i := 408) (by decide +kernel) rfl
theorem lk_n_X7_46 : Cond.methodLinkNest RX7 46 yX8_withCell "FullMoonWho" ∈ fwN := fn_mem (i := 409) (by decide +kernel) rfl
theorem lk_t_X8_withCell : Cond.static yX8_withCell ∈ fwW := fw_mem (i := 410) (by decide +kernel) rfl
theorem lk_c_X8_withCell : Cond.code yX8_withCell cX8_withCell 4 ((some .long)) ∈ fwW := fw_mem (i := 411) (by decide +kernel) rfl
theorem lk_l_X8_326 : Cond.constantLong RX8 326 (255) ∈ fwW := fw_mem (i := 412) (by decide +kernel) rfl
theorem lk_l_X8_243 : Cond.constantLong RX8 243 (-1) ∈ fwW := fw_mem (i := 413) (by decide +kernel) rfl
theorem lk_n_X7_50 : Cond.methodLinkNest RX7 50 yX8_bit "FullMoonWho" ∈ fwN := fn_mem (i := 414) (by decide +kernel) rfl
theorem lk_t_X8_bit : Cond.static yX8_bit ∈ fwW := fw_mem (i := 415) (by decide +kernel) rfl
theorem lk_c_X8_bit : Cond.code yX8_bit cX8_bit 1 ((some .int)) ∈ fwW := fw_mem (i := 416) (by decide +kernel) rfl
theorem lk_m_X3_48 : Cond.methodLink RX3 48 yX3_readPath ∈ fwW := fw_mem (i := 417) (by decide +kernel) rfl
theorem lk_i_X3_readPath : Cond.instanceMethod yX3_readPath ∈ fwW := fw_mem (i := 419) (by decide +kernel) rfl
theorem lk_c_X3_readPath : Cond.code yX3_readPath cX3_readPath 2 ((some .boolean)) ∈ fwW := fw_mem (i := 420) (by decide +kernel) rfl
theorem lk_m_X3_74 : Cond.methodLink RX3 74 yX3_readEnds ∈ fwW := fw_mem (i := 421) (by decide +kernel) rfl
theorem lk_i_X3_readEnds : Cond.instanceMethod yX3_readEnds ∈ fwW := fw_mem (i := 423) (by decide +kernel) rfl
theorem lk_c_X3_readEnds : Cond.code yX3_readEnds cX3_readEnds 5 ((some .boolean)) ∈ fwW := fw_mem (i := 424) (by decide +kernel) rfl
theorem lk_m_X3_95 : Cond.methodLink RX3 95 yX3_linkable ∈ fwW := fw_mem (i := 425) (by decide +kernel) rfl
theorem lk_t_X3_linkable : Cond.static yX3_linkable ∈ fwW := fw_mem (i := 426) (by decide +kernel) rfl
theorem lk_c_X3_linkable : Cond.code yX3_linkable cX3_linkable 5 ((some .int)) ∈ fwW := fw_mem (i := 427) (by decide +kernel) rfl
theorem lk_m_X3_99 : Cond.methodLink RX3 99 yX3_unlinked ∈ fwW := fw_mem (i := 428) (by decide +kernel) rfl
theorem lk_t_X3_unlinked : Cond.static yX3_unlinked ∈ fwW := fw_mem (i := 429) (by decide +kernel) rfl
theorem lk_c_X3_unlinked : Cond.code yX3_unlinked cX3_unlinked 4 ((some .int)) ∈ fwW := fw_mem (i := 430) (by decide +kernel) rfl
theorem lk_n_X3_107 : Cond.methodLinkNest RX3 107 yX8_cell "FullMoonWho" ∈ fwN := fn_mem (i := 431) (by decide +kernel) rfl
theorem lk_t_X8_cell : Cond.static yX8_cell ∈ fwW := fw_mem (i := 432) (by decide +kernel) rfl
theorem lk_c_X8_cell : Cond.code yX8_cell cX8_cell 3 ((some .int)) ∈ fwW := fw_mem (i := 433) (by decide +kernel) rfl
theorem lk_n_X3_110 : Cond.methodLinkNest RX3 110 yX8_bit "FullMoonWho" ∈ fwN := fn_mem (i := 434) (by decide +kernel) rfl
theorem lk_m_X3_78 : Cond.methodLink RX3 78 yX7_addPath ∈ fwW := fw_mem (i := 435) (by decide +kernel) rfl
theorem lk_i_X7_addPath : Cond.instanceMethod yX7_addPath ∈ fwW := fw_mem (i := 436) (by decide +kernel) rfl
theorem lk_s_X7_addPath : Cond.selects RX7 yX7_addPath yX7_addPath ∈ fwW := fw_mem (i := 437) (by decide +kernel) rfl
theorem lk_c_X7_addPath : Cond.code yX7_addPath cX7_addPath 4 (none) ∈ fwW := fw_mem (i := 438) (by decide +kernel) rfl
theorem lk_m_X7_54 : Cond.methodLink RX7 54 yX7_linked ∈ fwW := fw_mem (i := 439) (by decide +kernel) rfl
theorem lk_t_X7_linked : Cond.static yX7_linked ∈ fwW := fw_mem (i := 440) (by decide +kernel) rfl
theorem lk_c_X7_linked : Cond.code yX7_linked cX7_linked 6 ((some .long)) ∈ fwW := fw_mem (i := 441) (by decide +kernel) rfl
theorem lk_n_X7_57 : Cond.methodLinkNest RX7 57 yX8_cell "FullMoonWho" ∈ fwN := fn_mem (i := 442) (by decide +kernel) rfl
theorem lk_m_X3_51 : Cond.methodLink RX3 51 yX3_readPerson ∈ fwW := fw_mem (i := 443) (by decide +kernel) rfl
theorem lk_i_X3_readPerson : Cond.instanceMethod yX3_readPerson ∈ fwW := fw_mem (i := 445) (by decide +kernel) rfl
theorem lk_c_X3_readPerson : Cond.code yX3_readPerson cX3_readPerson 3 ((some .boolean)) ∈ fwW := fw_mem (i := 446) (by decide +kernel) rfl
theorem lk_m_X3_85 : Cond.methodLink RX3 85 yX7_addPerson ∈ fwW := fw_mem (i := 447) (by decide +kernel) rfl
theorem lk_i_X7_addPerson : Cond.instanceMethod yX7_addPerson ∈ fwW := fw_mem (i := 448) (by decide +kernel) rfl
theorem lk_s_X7_addPerson : Cond.selects RX7 yX7_addPerson yX7_addPerson ∈ fwW := fw_mem (i := 449) (by decide +kernel) rfl
theorem lk_c_X7_addPerson : Cond.code yX7_addPerson cX7_addPerson 3 (none) ∈ fwW := fw_mem (i := 450) (by decide +kernel) rfl
theorem lk_m_X3_54 : Cond.methodLink RX3 54 yX3_readKin ∈ fwW := fw_mem (i := 451) (by decide +kernel) rfl
theorem lk_i_X3_readKin : Cond.instanceMethod yX3_readKin ∈ fwW := fw_mem (i := 453) (by decide +kernel) rfl
theorem lk_c_X3_readKin : Cond.code yX3_readKin cX3_readKin 1 ((some .boolean)) ∈ fwW := fw_mem (i := 454) (by decide +kernel) rfl
theorem lk_m_X3_92 : Cond.methodLink RX3 92 yX7_addKin ∈ fwW := fw_mem (i := 455) (by decide +kernel) rfl
theorem lk_i_X7_addKin : Cond.instanceMethod yX7_addKin ∈ fwW := fw_mem (i := 456) (by decide +kernel) rfl
theorem lk_s_X7_addKin : Cond.selects RX7 yX7_addKin yX7_addKin ∈ fwW := fw_mem (i := 457) (by decide +kernel) rfl
theorem lk_c_X7_addKin : Cond.code yX7_addKin cX7_addKin 3 (none) ∈ fwW := fw_mem (i := 458) (by decide +kernel) rfl
theorem lk_m_L_29 : Cond.methodLink RL 29 yX8_village ∈ fwW := fw_mem (i := 459) (by decide +kernel) rfl
theorem lk_i_X8_village : Cond.instanceMethod yX8_village ∈ fwW := fw_mem (i := 460) (by decide +kernel) rfl
theorem lk_s_X8_village : Cond.selects RX8 yX8_village yX8_village ∈ fwW := fw_mem (i := 461) (by decide +kernel) rfl
theorem lk_c_X8_village : Cond.code yX8_village cX8_village 2 ((some .int)) ∈ fwW := fw_mem (i := 462) (by decide +kernel) rfl
theorem lk_m_X8_94 : Cond.methodLink RX8 94 yX2_begin ∈ fwW := fw_mem (i := 463) (by decide +kernel) rfl
theorem lk_i_X2_begin : Cond.instanceMethod yX2_begin ∈ fwW := fw_mem (i := 464) (by decide +kernel) rfl
theorem lk_s_X2_begin : Cond.selects RX2 yX2_begin yX2_begin ∈ fwW := fw_mem (i := 465) (by decide +kernel) rfl
theorem lk_c_X2_begin : Cond.code yX2_begin cX2_begin 2 (none) ∈ fwW := fw_mem (i := 466) (by decide +kernel) rfl
theorem lk_m_X8_98 : Cond.methodLink RX8 98 yX0_clear ∈ fwW := fw_mem (i := 467) (by decide +kernel) rfl
theorem lk_i_X0_clear : Cond.instanceMethod yX0_clear ∈ fwW := fw_mem (i := 468) (by decide +kernel) rfl
theorem lk_s_X0_clear : Cond.selects RX0 yX0_clear yX0_clear ∈ fwW := fw_mem (i := 469) (by decide +kernel) rfl
theorem lk_c_X0_clear : Cond.code yX0_clear cX0_clear 1 (none) ∈ fwW := fw_mem (i := 470) (by decide +kernel) rfl
theorem lk_m_L_33 : Cond.methodLink RL 33 yX8_house ∈ fwW := fw_mem (i := 471) (by decide +kernel) rfl
theorem lk_i_X8_house : Cond.instanceMethod yX8_house ∈ fwW := fw_mem (i := 472) (by decide +kernel) rfl
theorem lk_s_X8_house : Cond.selects RX8 yX8_house yX8_house ∈ fwW := fw_mem (i := 473) (by decide +kernel) rfl
theorem lk_c_X8_house : Cond.code yX8_house cX8_house 3 ((some .int)) ∈ fwW := fw_mem (i := 474) (by decide +kernel) rfl
theorem lk_m_X8_107 : Cond.methodLink RX8 107 yX8_noHouse ∈ fwW := fw_mem (i := 475) (by decide +kernel) rfl
theorem lk_i_X8_noHouse : Cond.instanceMethod yX8_noHouse ∈ fwW := fw_mem (i := 477) (by decide +kernel) rfl
theorem lk_c_X8_noHouse : Cond.code yX8_noHouse cX8_noHouse 2 ((some .boolean)) ∈ fwW := fw_mem (i := 478) (by decide +kernel) rfl
theorem lk_m_X8_114 : Cond.methodLink RX8 114 yX8_cell ∈ fwW := fw_mem (i := 479) (by decide +kernel) rfl
theorem lk_m_X8_118 : Cond.methodLink RX8 118 yX2_boltOf ∈ fwW := fw_mem (i := 480) (by decide +kernel) rfl
theorem lk_i_X2_boltOf : Cond.instanceMethod yX2_boltOf ∈ fwW := fw_mem (i := 481) (by decide +kernel) rfl
theorem lk_s_X2_boltOf : Cond.selects RX2 yX2_boltOf yX2_boltOf ∈ fwW := fw_mem (i := 482) (by decide +kernel) rfl
theorem lk_c_X2_boltOf : Cond.code yX2_boltOf cX2_boltOf 2 ((some .int)) ∈ fwW := fw_mem (i := 483) (by decide +kernel) rfl
theorem lk_n_X2_59 : Cond.methodLinkNest RX2 59 yX8_has "FullMoonWho" ∈ fwN := fn_mem (i := 484) (by decide +kernel) rfl
theorem lk_m_X8_125 : Cond.methodLink RX8 125 yX7_dwellers ∈ fwW := fw_mem (i := 485) (by decide +kernel) rfl
theorem lk_i_X7_dwellers : Cond.instanceMethod yX7_dwellers ∈ fwW := fw_mem (i := 486) (by decide +kernel) rfl
theorem lk_s_X7_dwellers : Cond.selects RX7 yX7_dwellers yX7_dwellers ∈ fwW := fw_mem (i := 487) (by decide +kernel) rfl
theorem lk_c_X7_dwellers : Cond.code yX7_dwellers cX7_dwellers 4 ((some .int)) ∈ fwW := fw_mem (i := 488) (by decide +kernel) rfl
theorem lk_m_L_38 : Cond.methodLink RL 38 yX8_person ∈ fwW := fw_mem (i := 489) (by decide +kernel) rfl
theorem lk_i_X8_person : Cond.instanceMethod yX8_person ∈ fwW := fw_mem (i := 490) (by decide +kernel) rfl
theorem lk_s_X8_person : Cond.selects RX8 yX8_person yX8_person ∈ fwW := fw_mem (i := 491) (by decide +kernel) rfl
theorem lk_c_X8_person : Cond.code yX8_person cX8_person 3 ((some .int)) ∈ fwW := fw_mem (i := 492) (by decide +kernel) rfl
theorem lk_m_X8_134 : Cond.methodLink RX8 134 yX8_noPerson ∈ fwW := fw_mem (i := 493) (by decide +kernel) rfl
theorem lk_i_X8_noPerson : Cond.instanceMethod yX8_noPerson ∈ fwW := fw_mem (i := 495) (by decide +kernel) rfl
theorem lk_c_X8_noPerson : Cond.code yX8_noPerson cX8_noPerson 2 ((some .boolean)) ∈ fwW := fw_mem (i := 496) (by decide +kernel) rfl
theorem lk_m_X8_143 : Cond.methodLink RX8 143 yX8_bitOf ∈ fwW := fw_mem (i := 497) (by decide +kernel) rfl
theorem lk_t_X8_bitOf : Cond.static yX8_bitOf ∈ fwW := fw_mem (i := 498) (by decide +kernel) rfl
theorem lk_c_X8_bitOf : Cond.code yX8_bitOf cX8_bitOf 2 ((some .int)) ∈ fwW := fw_mem (i := 499) (by decide +kernel) rfl
theorem lk_m_X8_156 : Cond.methodLink RX8 156 yX2_biterOf ∈ fwW := fw_mem (i := 500) (by decide +kernel) rfl
theorem lk_i_X2_biterOf : Cond.instanceMethod yX2_biterOf ∈ fwW := fw_mem (i := 501) (by decide +kernel) rfl
theorem lk_s_X2_biterOf : Cond.selects RX2 yX2_biterOf yX2_biterOf ∈ fwW := fw_mem (i := 502) (by decide +kernel) rfl
theorem lk_c_X2_biterOf : Cond.code yX2_biterOf cX2_biterOf 3 ((some .int)) ∈ fwW := fw_mem (i := 503) (by decide +kernel) rfl
theorem lk_n_X2_69 : Cond.methodLinkNest RX2 69 yX8_cell "FullMoonWho" ∈ fwN := fn_mem (i := 504) (by decide +kernel) rfl
theorem lk_m_L_42 : Cond.methodLink RL 42 yX8_may ∈ fwW := fw_mem (i := 505) (by decide +kernel) rfl
theorem lk_i_X8_may : Cond.instanceMethod yX8_may ∈ fwW := fw_mem (i := 506) (by decide +kernel) rfl
theorem lk_s_X8_may : Cond.selects RX8 yX8_may yX8_may ∈ fwW := fw_mem (i := 507) (by decide +kernel) rfl
theorem lk_c_X8_may : Cond.code yX8_may cX8_may 2 ((some .int)) ∈ fwW := fw_mem (i := 508) (by decide +kernel) rfl
theorem lk_m_X8_162 : Cond.methodLink RX8 162 yX2_goals ∈ fwW := fw_mem (i := 509) (by decide +kernel) rfl
theorem lk_i_X2_goals : Cond.instanceMethod yX2_goals ∈ fwW := fw_mem (i := 510) (by decide +kernel) rfl
theorem lk_s_X2_goals : Cond.selects RX2 yX2_goals yX2_goals ∈ fwW := fw_mem (i := 511) (by decide +kernel) rfl
theorem lk_c_X2_goals : Cond.code yX2_goals cX2_goals 3 ((some .int)) ∈ fwW := fw_mem (i := 512) (by decide +kernel) rfl
theorem lk_m_X2_80 : Cond.methodLink RX2 80 yX2_reach ∈ fwW := fw_mem (i := 513) (by decide +kernel) rfl
theorem lk_i_X2_reach : Cond.instanceMethod yX2_reach ∈ fwW := fw_mem (i := 514) (by decide +kernel) rfl
theorem lk_s_X2_reach : Cond.selects RX2 yX2_reach yX2_reach ∈ fwW := fw_mem (i := 515) (by decide +kernel) rfl
theorem lk_c_X2_reach : Cond.code yX2_reach cX2_reach 4 ((some .int)) ∈ fwW := fw_mem (i := 516) (by decide +kernel) rfl
theorem lk_m_X2_76 : Cond.methodLink RX2 76 yX2_openHouses ∈ fwW := fw_mem (i := 517) (by decide +kernel) rfl
theorem lk_i_X2_openHouses : Cond.instanceMethod yX2_openHouses ∈ fwW := fw_mem (i := 518) (by decide +kernel) rfl
theorem lk_s_X2_openHouses : Cond.selects RX2 yX2_openHouses yX2_openHouses ∈ fwW := fw_mem (i := 519) (by decide +kernel) rfl
theorem lk_c_X2_openHouses : Cond.code yX2_openHouses cX2_openHouses 2 ((some .int)) ∈ fwW := fw_mem (i := 520) (by decide +kernel) rfl
theorem lk_n_X2_52 : Cond.methodLinkNest RX2 52 yX8_below "FullMoonWho" ∈ fwN := fn_mem (i := 521) (by decide +kernel) rfl
theorem lk_m_L_47 : Cond.methodLink RL 47 yX8_prey ∈ fwW := fw_mem (i := 522) (by decide +kernel) rfl
theorem lk_i_X8_prey : Cond.instanceMethod yX8_prey ∈ fwW := fw_mem (i := 523) (by decide +kernel) rfl
theorem lk_s_X8_prey : Cond.selects RX8 yX8_prey yX8_prey ∈ fwW := fw_mem (i := 524) (by decide +kernel) rfl
theorem lk_c_X8_prey : Cond.code yX8_prey cX8_prey 3 ((some .int)) ∈ fwW := fw_mem (i := 525) (by decide +kernel) rfl
theorem lk_m_X8_166 : Cond.methodLink RX8 166 yX8_has ∈ fwW := fw_mem (i := 526) (by decide +kernel) rfl
theorem lk_m_X8_170 : Cond.methodLink RX8 170 yX2_victim ∈ fwW := fw_mem (i := 527) (by decide +kernel) rfl
theorem lk_i_X2_victim : Cond.instanceMethod yX2_victim ∈ fwW := fw_mem (i := 528) (by decide +kernel) rfl
theorem lk_s_X2_victim : Cond.selects RX2 yX2_victim yX2_victim ∈ fwW := fw_mem (i := 529) (by decide +kernel) rfl
theorem lk_c_X2_victim : Cond.code yX2_victim cX2_victim 5 ((some .int)) ∈ fwW := fw_mem (i := 530) (by decide +kernel) rfl
theorem lk_m_X2_84 : Cond.methodLink RX2 84 yX2_there ∈ fwW := fw_mem (i := 531) (by decide +kernel) rfl
theorem lk_i_X2_there : Cond.instanceMethod yX2_there ∈ fwW := fw_mem (i := 532) (by decide +kernel) rfl
theorem lk_s_X2_there : Cond.selects RX2 yX2_there yX2_there ∈ fwW := fw_mem (i := 533) (by decide +kernel) rfl
theorem lk_c_X2_there : Cond.code yX2_there cX2_there 2 ((some .int)) ∈ fwW := fw_mem (i := 534) (by decide +kernel) rfl
theorem lk_m_X2_87 : Cond.methodLink RX2 87 yX7_dwellers ∈ fwW := fw_mem (i := 535) (by decide +kernel) rfl
theorem lk_n_X2_93 : Cond.methodLinkNest RX2 93 yX8_bitNumbered "FullMoonWho" ∈ fwN := fn_mem (i := 536) (by decide +kernel) rfl
theorem lk_t_X8_bitNumbered : Cond.static yX8_bitNumbered ∈ fwW := fw_mem (i := 537) (by decide +kernel) rfl
theorem lk_c_X8_bitNumbered : Cond.code yX8_bitNumbered cX8_bitNumbered 4 ((some .int)) ∈ fwW := fw_mem (i := 538) (by decide +kernel) rfl
theorem lk_m_L_51 : Cond.methodLink RL 51 yX8_visit ∈ fwW := fw_mem (i := 539) (by decide +kernel) rfl
theorem lk_i_X8_visit : Cond.instanceMethod yX8_visit ∈ fwW := fw_mem (i := 540) (by decide +kernel) rfl
theorem lk_s_X8_visit : Cond.selects RX8 yX8_visit yX8_visit ∈ fwW := fw_mem (i := 541) (by decide +kernel) rfl
theorem lk_c_X8_visit : Cond.code yX8_visit cX8_visit 3 ((some .int)) ∈ fwW := fw_mem (i := 542) (by decide +kernel) rfl
theorem lk_m_X8_174 : Cond.methodLink RX8 174 yX0_add ∈ fwW := fw_mem (i := 543) (by decide +kernel) rfl
theorem lk_i_X0_add : Cond.instanceMethod yX0_add ∈ fwW := fw_mem (i := 544) (by decide +kernel) rfl
theorem lk_s_X0_add : Cond.selects RX0 yX0_add yX0_add ∈ fwW := fw_mem (i := 545) (by decide +kernel) rfl
theorem lk_c_X0_add : Cond.code yX0_add cX0_add 3 (none) ∈ fwW := fw_mem (i := 546) (by decide +kernel) rfl
theorem lk_n_X0_28 : Cond.methodLinkNest RX0 28 yX8_nightAt "FullMoonWho" ∈ fwN := fn_mem (i := 547) (by decide +kernel) rfl
theorem lk_t_X8_nightAt : Cond.static yX8_nightAt ∈ fwW := fw_mem (i := 548) (by decide +kernel) rfl
theorem lk_c_X8_nightAt : Cond.code yX8_nightAt cX8_nightAt 2 ((some (.object "FullMoonWho$Night"))) ∈ fwW := fw_mem (i := 549) (by decide +kernel) rfl
theorem lk_m_X0_32 : Cond.methodLink RX0 32 yX2_copyFrom ∈ fwW := fw_mem (i := 550) (by decide +kernel) rfl
theorem lk_i_X2_copyFrom : Cond.instanceMethod yX2_copyFrom ∈ fwW := fw_mem (i := 551) (by decide +kernel) rfl
theorem lk_s_X2_copyFrom : Cond.selects RX2 yX2_copyFrom yX2_copyFrom ∈ fwW := fw_mem (i := 552) (by decide +kernel) rfl
theorem lk_c_X2_copyFrom : Cond.code yX2_copyFrom cX2_copyFrom 2 (none) ∈ fwW := fw_mem (i := 553) (by decide +kernel) rfl
theorem lk_m_X8_178 : Cond.methodLink RX8 178 yX2_walk ∈ fwW := fw_mem (i := 554) (by decide +kernel) rfl
theorem lk_i_X2_walk : Cond.instanceMethod yX2_walk ∈ fwW := fw_mem (i := 555) (by decide +kernel) rfl
theorem lk_s_X2_walk : Cond.selects RX2 yX2_walk yX2_walk ∈ fwW := fw_mem (i := 556) (by decide +kernel) rfl
theorem lk_c_X2_walk : Cond.code yX2_walk cX2_walk 5 ((some .int)) ∈ fwW := fw_mem (i := 557) (by decide +kernel) rfl
theorem lk_m_X2_97 : Cond.methodLink RX2 97 yX2_victim ∈ fwW := fw_mem (i := 558) (by decide +kernel) rfl
theorem lk_n_X2_63 : Cond.methodLinkNest RX2 63 yX8_bit "FullMoonWho" ∈ fwN := fn_mem (i := 559) (by decide +kernel) rfl
theorem lk_n_X2_104 : Cond.methodLinkNest RX2 104 yX8_withCell "FullMoonWho" ∈ fwN := fn_mem (i := 560) (by decide +kernel) rfl
theorem lk_m_L_55 : Cond.methodLink RL 55 yX8_dawn ∈ fwW := fw_mem (i := 561) (by decide +kernel) rfl
theorem lk_i_X8_dawn : Cond.instanceMethod yX8_dawn ∈ fwW := fw_mem (i := 562) (by decide +kernel) rfl
theorem lk_s_X8_dawn : Cond.selects RX8 yX8_dawn yX8_dawn ∈ fwW := fw_mem (i := 563) (by decide +kernel) rfl
theorem lk_c_X8_dawn : Cond.code yX8_dawn cX8_dawn 1 ((some .int)) ∈ fwW := fw_mem (i := 564) (by decide +kernel) rfl
theorem lk_m_X8_181 : Cond.methodLink RX8 181 yX2_nextNight ∈ fwW := fw_mem (i := 565) (by decide +kernel) rfl
theorem lk_i_X2_nextNight : Cond.instanceMethod yX2_nextNight ∈ fwW := fw_mem (i := 566) (by decide +kernel) rfl
theorem lk_s_X2_nextNight : Cond.selects RX2 yX2_nextNight yX2_nextNight ∈ fwW := fw_mem (i := 567) (by decide +kernel) rfl
theorem lk_c_X2_nextNight : Cond.code yX2_nextNight cX2_nextNight 2 ((some .int)) ∈ fwW := fw_mem (i := 568) (by decide +kernel) rfl
theorem lk_m_L_59 : Cond.methodLink RL 59 yX8_hang ∈ fwW := fw_mem (i := 569) (by decide +kernel) rfl
theorem lk_i_X8_hang : Cond.instanceMethod yX8_hang ∈ fwW := fw_mem (i := 570) (by decide +kernel) rfl
theorem lk_s_X8_hang : Cond.selects RX8 yX8_hang yX8_hang ∈ fwW := fw_mem (i := 571) (by decide +kernel) rfl
theorem lk_c_X8_hang : Cond.code yX8_hang cX8_hang 2 ((some .int)) ∈ fwW := fw_mem (i := 572) (by decide +kernel) rfl
theorem lk_m_X8_184 : Cond.methodLink RX8 184 yX8_bit ∈ fwW := fw_mem (i := 573) (by decide +kernel) rfl
theorem lk_m_L_63 : Cond.methodLink RL 63 yX8_bolt ∈ fwW := fw_mem (i := 574) (by decide +kernel) rfl
theorem lk_i_X8_bolt : Cond.instanceMethod yX8_bolt ∈ fwW := fw_mem (i := 575) (by decide +kernel) rfl
theorem lk_s_X8_bolt : Cond.selects RX8 yX8_bolt yX8_bolt ∈ fwW := fw_mem (i := 576) (by decide +kernel) rfl
theorem lk_c_X8_bolt : Cond.code yX8_bolt cX8_bolt 4 ((some .int)) ∈ fwW := fw_mem (i := 577) (by decide +kernel) rfl
theorem lk_m_X8_187 : Cond.methodLink RX8 187 yX2_setBolt ∈ fwW := fw_mem (i := 578) (by decide +kernel) rfl
theorem lk_i_X2_setBolt : Cond.instanceMethod yX2_setBolt ∈ fwW := fw_mem (i := 579) (by decide +kernel) rfl
theorem lk_s_X2_setBolt : Cond.selects RX2 yX2_setBolt yX2_setBolt ∈ fwW := fw_mem (i := 580) (by decide +kernel) rfl
theorem lk_c_X2_setBolt : Cond.code yX2_setBolt cX2_setBolt 3 (none) ∈ fwW := fw_mem (i := 581) (by decide +kernel) rfl
theorem lk_m_L_67 : Cond.methodLink RL 67 yX8_undo ∈ fwW := fw_mem (i := 582) (by decide +kernel) rfl
theorem lk_i_X8_undo : Cond.instanceMethod yX8_undo ∈ fwW := fw_mem (i := 583) (by decide +kernel) rfl
theorem lk_s_X8_undo : Cond.selects RX8 yX8_undo yX8_undo ∈ fwW := fw_mem (i := 584) (by decide +kernel) rfl
theorem lk_c_X8_undo : Cond.code yX8_undo cX8_undo 1 ((some .int)) ∈ fwW := fw_mem (i := 585) (by decide +kernel) rfl
theorem lk_m_X8_191 : Cond.methodLink RX8 191 yX0_takeBack ∈ fwW := fw_mem (i := 586) (by decide +kernel) rfl
theorem lk_i_X0_takeBack : Cond.instanceMethod yX0_takeBack ∈ fwW := fw_mem (i := 587) (by decide +kernel) rfl
theorem lk_s_X0_takeBack : Cond.selects RX0 yX0_takeBack yX0_takeBack ∈ fwW := fw_mem (i := 588) (by decide +kernel) rfl
theorem lk_c_X0_takeBack : Cond.code yX0_takeBack cX0_takeBack 3 ((some .boolean)) ∈ fwW := fw_mem (i := 589) (by decide +kernel) rfl
theorem lk_m_L_71 : Cond.methodLink RL 71 yX8_judge ∈ fwW := fw_mem (i := 590) (by decide +kernel) rfl
theorem lk_i_X8_judge : Cond.instanceMethod yX8_judge ∈ fwW := fw_mem (i := 591) (by decide +kernel) rfl
theorem lk_s_X8_judge : Cond.selects RX8 yX8_judge yX8_judge ∈ fwW := fw_mem (i := 592) (by decide +kernel) rfl
theorem lk_c_X8_judge : Cond.code yX8_judge cX8_judge 7 ((some .int)) ∈ fwW := fw_mem (i := 593) (by decide +kernel) rfl
theorem lk_l_X8_198 : Cond.constantLong RX8 198 (100) ∈ fwW := fw_mem (i := 594) (by decide +kernel) rfl
theorem lk_m_X8_200 : Cond.methodLink RX8 200 yX8_powerOf ∈ fwW := fw_mem (i := 595) (by decide +kernel) rfl
theorem lk_t_X8_powerOf : Cond.static yX8_powerOf ∈ fwW := fw_mem (i := 596) (by decide +kernel) rfl
theorem lk_c_X8_powerOf : Cond.code yX8_powerOf cX8_powerOf 6 ((some .long)) ∈ fwW := fw_mem (i := 597) (by decide +kernel) rfl
theorem lk_m_X8_204 : Cond.methodLink RX8 204 yX2_copyFrom ∈ fwW := fw_mem (i := 598) (by decide +kernel) rfl
theorem lk_m_L_75 : Cond.methodLink RL 75 yX8_first ∈ fwW := fw_mem (i := 599) (by decide +kernel) rfl
theorem lk_i_X8_first : Cond.instanceMethod yX8_first ∈ fwW := fw_mem (i := 600) (by decide +kernel) rfl
theorem lk_s_X8_first : Cond.selects RX8 yX8_first yX8_first ∈ fwW := fw_mem (i := 601) (by decide +kernel) rfl
theorem lk_c_X8_first : Cond.code yX8_first cX8_first 2 ((some .int)) ∈ fwW := fw_mem (i := 602) (by decide +kernel) rfl
theorem lk_m_X8_207 : Cond.methodLink RX8 207 yX2_firstOf ∈ fwW := fw_mem (i := 603) (by decide +kernel) rfl
theorem lk_i_X2_firstOf : Cond.instanceMethod yX2_firstOf ∈ fwW := fw_mem (i := 604) (by decide +kernel) rfl
theorem lk_s_X2_firstOf : Cond.selects RX2 yX2_firstOf yX2_firstOf ∈ fwW := fw_mem (i := 605) (by decide +kernel) rfl
theorem lk_c_X2_firstOf : Cond.code yX2_firstOf cX2_firstOf 4 ((some .int)) ∈ fwW := fw_mem (i := 606) (by decide +kernel) rfl
theorem lk_m_X2_108 : Cond.methodLink RX2 108 yX2_biterOf ∈ fwW := fw_mem (i := 607) (by decide +kernel) rfl
theorem lk_m_L_79 : Cond.methodLink RL 79 yX8_line ∈ fwW := fw_mem (i := 608) (by decide +kernel) rfl
theorem lk_i_X8_line : Cond.instanceMethod yX8_line ∈ fwW := fw_mem (i := 609) (by decide +kernel) rfl
theorem lk_s_X8_line : Cond.selects RX8 yX8_line yX8_line ∈ fwW := fw_mem (i := 610) (by decide +kernel) rfl
theorem lk_c_X8_line : Cond.code yX8_line cX8_line 2 ((some .int)) ∈ fwW := fw_mem (i := 611) (by decide +kernel) rfl
theorem lk_m_X8_210 : Cond.methodLink RX8 210 yX2_bitesAhead ∈ fwW := fw_mem (i := 612) (by decide +kernel) rfl
theorem lk_i_X2_bitesAhead : Cond.instanceMethod yX2_bitesAhead ∈ fwW := fw_mem (i := 613) (by decide +kernel) rfl
theorem lk_s_X2_bitesAhead : Cond.selects RX2 yX2_bitesAhead yX2_bitesAhead ∈ fwW := fw_mem (i := 614) (by decide +kernel) rfl
theorem lk_c_X2_bitesAhead : Cond.code yX2_bitesAhead cX2_bitesAhead 5 ((some .int)) ∈ fwW := fw_mem (i := 615) (by decide +kernel) rfl
theorem lk_m_L_83 : Cond.methodLink RL 83 yX8_brood ∈ fwW := fw_mem (i := 616) (by decide +kernel) rfl
theorem lk_i_X8_brood : Cond.instanceMethod yX8_brood ∈ fwW := fw_mem (i := 617) (by decide +kernel) rfl
theorem lk_s_X8_brood : Cond.selects RX8 yX8_brood yX8_brood ∈ fwW := fw_mem (i := 618) (by decide +kernel) rfl
theorem lk_c_X8_brood : Cond.code yX8_brood cX8_brood 4 ((some .int)) ∈ fwW := fw_mem (i := 619) (by decide +kernel) rfl
theorem lk_m_L_87 : Cond.methodLink RL 87 yX8_track ∈ fwW := fw_mem (i := 620) (by decide +kernel) rfl
theorem lk_i_X8_track : Cond.instanceMethod yX8_track ∈ fwW := fw_mem (i := 621) (by decide +kernel) rfl
theorem lk_s_X8_track : Cond.selects RX8 yX8_track yX8_track ∈ fwW := fw_mem (i := 622) (by decide +kernel) rfl
theorem lk_c_X8_track : Cond.code yX8_track cX8_track 4 ((some .int)) ∈ fwW := fw_mem (i := 623) (by decide +kernel) rfl
theorem lk_m_X8_213 : Cond.methodLink RX8 213 yX8_noMoon ∈ fwW := fw_mem (i := 624) (by decide +kernel) rfl
theorem lk_t_X8_noMoon : Cond.static yX8_noMoon ∈ fwW := fw_mem (i := 625) (by decide +kernel) rfl
theorem lk_c_X8_noMoon : Cond.code yX8_noMoon cX8_noMoon 1 ((some .boolean)) ∈ fwW := fw_mem (i := 626) (by decide +kernel) rfl
theorem lk_m_X8_216 : Cond.methodLink RX8 216 yX4_add ∈ fwW := fw_mem (i := 627) (by decide +kernel) rfl
theorem lk_i_X4_add : Cond.instanceMethod yX4_add ∈ fwW := fw_mem (i := 628) (by decide +kernel) rfl
theorem lk_s_X4_add : Cond.selects RX4 yX4_add yX4_add ∈ fwW := fw_mem (i := 629) (by decide +kernel) rfl
theorem lk_c_X4_add : Cond.code yX4_add cX4_add 5 ((some .int)) ∈ fwW := fw_mem (i := 630) (by decide +kernel) rfl
theorem lk_n_X4_28 : Cond.methodLinkNest RX4 28 yX8_put "FullMoonWho" ∈ fwN := fn_mem (i := 631) (by decide +kernel) rfl
theorem lk_t_X8_put : Cond.static yX8_put ∈ fwW := fw_mem (i := 632) (by decide +kernel) rfl
theorem lk_c_X8_put : Cond.code yX8_put cX8_put 3 (none) ∈ fwW := fw_mem (i := 633) (by decide +kernel) rfl
theorem lk_m_L_92 : Cond.methodLink RL 92 yX8_hungry ∈ fwW := fw_mem (i := 634) (by decide +kernel) rfl
theorem lk_i_X8_hungry : Cond.instanceMethod yX8_hungry ∈ fwW := fw_mem (i := 635) (by decide +kernel) rfl
theorem lk_s_X8_hungry : Cond.selects RX8 yX8_hungry yX8_hungry ∈ fwW := fw_mem (i := 636) (by decide +kernel) rfl
theorem lk_c_X8_hungry : Cond.code yX8_hungry cX8_hungry 4 ((some .int)) ∈ fwW := fw_mem (i := 637) (by decide +kernel) rfl
theorem lk_m_L_97 : Cond.methodLink RL 97 yX8_spoon ∈ fwW := fw_mem (i := 638) (by decide +kernel) rfl
theorem lk_i_X8_spoon : Cond.instanceMethod yX8_spoon ∈ fwW := fw_mem (i := 639) (by decide +kernel) rfl
theorem lk_s_X8_spoon : Cond.selects RX8 yX8_spoon yX8_spoon ∈ fwW := fw_mem (i := 640) (by decide +kernel) rfl
theorem lk_c_X8_spoon : Cond.code yX8_spoon cX8_spoon 3 ((some .int)) ∈ fwW := fw_mem (i := 641) (by decide +kernel) rfl
theorem lk_m_L_102 : Cond.methodLink RL 102 yX8_unsee ∈ fwW := fw_mem (i := 642) (by decide +kernel) rfl
theorem lk_i_X8_unsee : Cond.instanceMethod yX8_unsee ∈ fwW := fw_mem (i := 643) (by decide +kernel) rfl
theorem lk_s_X8_unsee : Cond.selects RX8 yX8_unsee yX8_unsee ∈ fwW := fw_mem (i := 644) (by decide +kernel) rfl
theorem lk_c_X8_unsee : Cond.code yX8_unsee cX8_unsee 2 ((some .int)) ∈ fwW := fw_mem (i := 645) (by decide +kernel) rfl
theorem lk_m_L_106 : Cond.methodLink RL 106 yX8_tales ∈ fwW := fw_mem (i := 646) (by decide +kernel) rfl
theorem lk_i_X8_tales : Cond.instanceMethod yX8_tales ∈ fwW := fw_mem (i := 647) (by decide +kernel) rfl
theorem lk_s_X8_tales : Cond.selects RX8 yX8_tales yX8_tales ∈ fwW := fw_mem (i := 648) (by decide +kernel) rfl
theorem lk_c_X8_tales : Cond.code yX8_tales cX8_tales 1 ((some .long)) ∈ fwW := fw_mem (i := 649) (by decide +kernel) rfl
theorem lk_m_X8_220 : Cond.methodLink RX8 220 yX8_tellTales ∈ fwW := fw_mem (i := 650) (by decide +kernel) rfl
theorem lk_i_X8_tellTales : Cond.instanceMethod yX8_tellTales ∈ fwW := fw_mem (i := 652) (by decide +kernel) rfl
theorem lk_c_X8_tellTales : Cond.code yX8_tellTales cX8_tellTales 1 (none) ∈ fwW := fw_mem (i := 653) (by decide +kernel) rfl
theorem lk_m_X8_309 : Cond.methodLink RX8 309 yX5_tell ∈ fwW := fw_mem (i := 654) (by decide +kernel) rfl
theorem lk_i_X5_tell : Cond.instanceMethod yX5_tell ∈ fwW := fw_mem (i := 655) (by decide +kernel) rfl
theorem lk_s_X5_tell : Cond.selects RX5 yX5_tell yX5_tell ∈ fwW := fw_mem (i := 656) (by decide +kernel) rfl
theorem lk_c_X5_tell : Cond.code yX5_tell cX5_tell 9 (none) ∈ fwW := fw_mem (i := 657) (by decide +kernel) rfl
theorem lk_m_X5_39 : Cond.methodLink RX5 39 yX2_there ∈ fwW := fw_mem (i := 658) (by decide +kernel) rfl
theorem lk_m_X5_45 : Cond.methodLink RX5 45 yX5_spoonsFit ∈ fwW := fw_mem (i := 659) (by decide +kernel) rfl
theorem lk_t_X5_spoonsFit : Cond.static yX5_spoonsFit ∈ fwW := fw_mem (i := 660) (by decide +kernel) rfl
theorem lk_c_X5_spoonsFit : Cond.code yX5_spoonsFit cX5_spoonsFit 5 ((some .boolean)) ∈ fwW := fw_mem (i := 661) (by decide +kernel) rfl
theorem lk_m_X5_62 : Cond.methodLink RX5 62 yX4_isOf ∈ fwW := fw_mem (i := 662) (by decide +kernel) rfl
theorem lk_i_X4_isOf : Cond.instanceMethod yX4_isOf ∈ fwW := fw_mem (i := 663) (by decide +kernel) rfl
theorem lk_s_X4_isOf : Cond.selects RX4 yX4_isOf yX4_isOf ∈ fwW := fw_mem (i := 664) (by decide +kernel) rfl
theorem lk_c_X4_isOf : Cond.code yX4_isOf cX4_isOf 4 ((some .boolean)) ∈ fwW := fw_mem (i := 665) (by decide +kernel) rfl
theorem lk_n_X4_32 : Cond.methodLinkNest RX4 32 yX8_at "FullMoonWho" ∈ fwN := fn_mem (i := 666) (by decide +kernel) rfl
theorem lk_t_X8_at : Cond.static yX8_at ∈ fwW := fw_mem (i := 667) (by decide +kernel) rfl
theorem lk_c_X8_at : Cond.code yX8_at cX8_at 2 ((some .int)) ∈ fwW := fw_mem (i := 668) (by decide +kernel) rfl
theorem lk_m_X5_66 : Cond.methodLink RX5 66 yX4_place ∈ fwW := fw_mem (i := 669) (by decide +kernel) rfl
theorem lk_i_X4_place : Cond.instanceMethod yX4_place ∈ fwW := fw_mem (i := 670) (by decide +kernel) rfl
theorem lk_s_X4_place : Cond.selects RX4 yX4_place yX4_place ∈ fwW := fw_mem (i := 671) (by decide +kernel) rfl
theorem lk_c_X4_place : Cond.code yX4_place cX4_place 2 ((some .int)) ∈ fwW := fw_mem (i := 672) (by decide +kernel) rfl
theorem lk_n_X5_70 : Cond.methodLinkNest RX5 70 yX8_has "FullMoonWho" ∈ fwN := fn_mem (i := 673) (by decide +kernel) rfl
theorem lk_m_X5_74 : Cond.methodLink RX5 74 yX4_value ∈ fwW := fw_mem (i := 674) (by decide +kernel) rfl
theorem lk_i_X4_value : Cond.instanceMethod yX4_value ∈ fwW := fw_mem (i := 675) (by decide +kernel) rfl
theorem lk_s_X4_value : Cond.selects RX4 yX4_value yX4_value ∈ fwW := fw_mem (i := 676) (by decide +kernel) rfl
theorem lk_c_X4_value : Cond.code yX4_value cX4_value 2 ((some .int)) ∈ fwW := fw_mem (i := 677) (by decide +kernel) rfl
theorem lk_m_X5_49 : Cond.methodLink RX5 49 yX5_look ∈ fwW := fw_mem (i := 678) (by decide +kernel) rfl
theorem lk_i_X5_look : Cond.instanceMethod yX5_look ∈ fwW := fw_mem (i := 680) (by decide +kernel) rfl
theorem lk_c_X5_look : Cond.code yX5_look cX5_look 14 ((some .long)) ∈ fwW := fw_mem (i := 681) (by decide +kernel) rfl
theorem lk_n_X5_77 : Cond.methodLinkNest RX5 77 yX8_bit "FullMoonWho" ∈ fwN := fn_mem (i := 682) (by decide +kernel) rfl
theorem lk_n_X5_83 : Cond.methodLinkNest RX5 83 yX8_cell "FullMoonWho" ∈ fwN := fn_mem (i := 683) (by decide +kernel) rfl
theorem lk_l_X5_87 : Cond.constantLong RX5 87 (-1) ∈ fwW := fw_mem (i := 684) (by decide +kernel) rfl
theorem lk_n_X5_89 : Cond.methodLinkNest RX5 89 yX8_withCell "FullMoonWho" ∈ fwN := fn_mem (i := 685) (by decide +kernel) rfl
theorem lk_m_X5_93 : Cond.methodLink RX5 93 yX2_reach ∈ fwW := fw_mem (i := 686) (by decide +kernel) rfl
theorem lk_m_X5_103 : Cond.methodLink RX5 103 yJ6_bitCount_0f7a4 ∈ fwW := fw_mem (i := 687) (by decide +kernel) rfl
theorem lk_t_J6_bitCount_0f7a4 : Cond.static yJ6_bitCount_0f7a4 ∈ fwW := fw_mem (i := 688) (by decide +kernel) rfl
theorem lk_c_J6_bitCount_0f7a4 : Cond.code yJ6_bitCount_0f7a4 cJ6_bitCount_0f7a4 1 ((some .int)) ∈ fwW := fw_mem (i := 689) (by decide +kernel) rfl
theorem lk_k_J6_265 : Cond.constant RJ6 265 (1431655765) ∈ fwW := fw_mem (i := 690) (by decide +kernel) rfl
theorem lk_k_J6_266 : Cond.constant RJ6 266 (858993459) ∈ fwW := fw_mem (i := 691) (by decide +kernel) rfl
theorem lk_k_J6_267 : Cond.constant RJ6 267 (252645135) ∈ fwW := fw_mem (i := 692) (by decide +kernel) rfl
theorem lk_m_X5_53 : Cond.methodLink RX5 53 yX5_ways ∈ fwW := fw_mem (i := 693) (by decide +kernel) rfl
theorem lk_i_X5_ways : Cond.instanceMethod yX5_ways ∈ fwW := fw_mem (i := 695) (by decide +kernel) rfl
theorem lk_c_X5_ways : Cond.code yX5_ways cX5_ways 11 ((some .long)) ∈ fwW := fw_mem (i := 696) (by decide +kernel) rfl
theorem lk_m_X8_223 : Cond.methodLink RX8 223 yX5_all ∈ fwW := fw_mem (i := 697) (by decide +kernel) rfl
theorem lk_i_X5_all : Cond.instanceMethod yX5_all ∈ fwW := fw_mem (i := 698) (by decide +kernel) rfl
theorem lk_s_X5_all : Cond.selects RX5 yX5_all yX5_all ∈ fwW := fw_mem (i := 699) (by decide +kernel) rfl
theorem lk_c_X5_all : Cond.code yX5_all cX5_all 4 ((some .long)) ∈ fwW := fw_mem (i := 700) (by decide +kernel) rfl
theorem lk_m_L_111 : Cond.methodLink RL 111 yX8_sets ∈ fwW := fw_mem (i := 701) (by decide +kernel) rfl
theorem lk_i_X8_sets : Cond.instanceMethod yX8_sets ∈ fwW := fw_mem (i := 702) (by decide +kernel) rfl
theorem lk_s_X8_sets : Cond.selects RX8 yX8_sets yX8_sets ∈ fwW := fw_mem (i := 703) (by decide +kernel) rfl
theorem lk_c_X8_sets : Cond.code yX8_sets cX8_sets 1 ((some .int)) ∈ fwW := fw_mem (i := 704) (by decide +kernel) rfl
theorem lk_m_X8_227 : Cond.methodLink RX8 227 yX5_setCount ∈ fwW := fw_mem (i := 705) (by decide +kernel) rfl
theorem lk_i_X5_setCount : Cond.instanceMethod yX5_setCount ∈ fwW := fw_mem (i := 706) (by decide +kernel) rfl
theorem lk_s_X5_setCount : Cond.selects RX5 yX5_setCount yX5_setCount ∈ fwW := fw_mem (i := 707) (by decide +kernel) rfl
theorem lk_c_X5_setCount : Cond.code yX5_setCount cX5_setCount 3 ((some .int)) ∈ fwW := fw_mem (i := 708) (by decide +kernel) rfl
theorem lk_m_L_115 : Cond.methodLink RL 115 yX8_setAt ∈ fwW := fw_mem (i := 709) (by decide +kernel) rfl
theorem lk_i_X8_setAt : Cond.instanceMethod yX8_setAt ∈ fwW := fw_mem (i := 710) (by decide +kernel) rfl
theorem lk_s_X8_setAt : Cond.selects RX8 yX8_setAt yX8_setAt ∈ fwW := fw_mem (i := 711) (by decide +kernel) rfl
theorem lk_c_X8_setAt : Cond.code yX8_setAt cX8_setAt 2 ((some .int)) ∈ fwW := fw_mem (i := 712) (by decide +kernel) rfl
theorem lk_m_X8_230 : Cond.methodLink RX8 230 yX5_setNumbered ∈ fwW := fw_mem (i := 713) (by decide +kernel) rfl
theorem lk_i_X5_setNumbered : Cond.instanceMethod yX5_setNumbered ∈ fwW := fw_mem (i := 714) (by decide +kernel) rfl
theorem lk_s_X5_setNumbered : Cond.selects RX5 yX5_setNumbered yX5_setNumbered ∈ fwW := fw_mem (i := 715) (by decide +kernel) rfl
theorem lk_c_X5_setNumbered : Cond.code yX5_setNumbered cX5_setNumbered 4 ((some .int)) ∈ fwW := fw_mem (i := 716) (by decide +kernel) rfl
theorem lk_m_L_119 : Cond.methodLink RL 119 yX8_sure ∈ fwW := fw_mem (i := 717) (by decide +kernel) rfl
theorem lk_i_X8_sure : Cond.instanceMethod yX8_sure ∈ fwW := fw_mem (i := 718) (by decide +kernel) rfl
theorem lk_s_X8_sure : Cond.selects RX8 yX8_sure yX8_sure ∈ fwW := fw_mem (i := 719) (by decide +kernel) rfl
theorem lk_c_X8_sure : Cond.code yX8_sure cX8_sure 2 ((some .int)) ∈ fwW := fw_mem (i := 720) (by decide +kernel) rfl
theorem lk_m_X8_233 : Cond.methodLink RX8 233 yX5_inAll ∈ fwW := fw_mem (i := 721) (by decide +kernel) rfl
theorem lk_i_X5_inAll : Cond.instanceMethod yX5_inAll ∈ fwW := fw_mem (i := 722) (by decide +kernel) rfl
theorem lk_s_X5_inAll : Cond.selects RX5 yX5_inAll yX5_inAll ∈ fwW := fw_mem (i := 723) (by decide +kernel) rfl
theorem lk_c_X5_inAll : Cond.code yX5_inAll cX5_inAll 3 ((some .int)) ∈ fwW := fw_mem (i := 724) (by decide +kernel) rfl
theorem lk_n_X5_108 : Cond.methodLinkNest RX5 108 yX8_below "FullMoonWho" ∈ fwN := fn_mem (i := 725) (by decide +kernel) rfl
theorem lk_m_X8_236 : Cond.methodLink RX8 236 yX2_there ∈ fwW := fw_mem (i := 726) (by decide +kernel) rfl
theorem lk_m_X8_240 : Cond.methodLink RX8 240 yX5_inSome ∈ fwW := fw_mem (i := 727) (by decide +kernel) rfl
theorem lk_i_X5_inSome : Cond.instanceMethod yX5_inSome ∈ fwW := fw_mem (i := 728) (by decide +kernel) rfl
theorem lk_s_X5_inSome : Cond.selects RX5 yX5_inSome yX5_inSome ∈ fwW := fw_mem (i := 729) (by decide +kernel) rfl
theorem lk_c_X5_inSome : Cond.code yX5_inSome cX5_inSome 3 ((some .int)) ∈ fwW := fw_mem (i := 730) (by decide +kernel) rfl
theorem lk_m_L_123 : Cond.methodLink RL 123 yX8_likely ∈ fwW := fw_mem (i := 731) (by decide +kernel) rfl
theorem lk_i_X8_likely : Cond.instanceMethod yX8_likely ∈ fwW := fw_mem (i := 732) (by decide +kernel) rfl
theorem lk_s_X8_likely : Cond.selects RX8 yX8_likely yX8_likely ∈ fwW := fw_mem (i := 733) (by decide +kernel) rfl
theorem lk_c_X8_likely : Cond.code yX8_likely cX8_likely 5 ((some .long)) ∈ fwW := fw_mem (i := 734) (by decide +kernel) rfl
theorem lk_l_X8_245 : Cond.constantLong RX8 245 (-3) ∈ fwW := fw_mem (i := 735) (by decide +kernel) rfl
theorem lk_m_X8_247 : Cond.methodLink RX8 247 yX5_allWith ∈ fwW := fw_mem (i := 736) (by decide +kernel) rfl
theorem lk_i_X5_allWith : Cond.instanceMethod yX5_allWith ∈ fwW := fw_mem (i := 737) (by decide +kernel) rfl
theorem lk_s_X5_allWith : Cond.selects RX5 yX5_allWith yX5_allWith ∈ fwW := fw_mem (i := 738) (by decide +kernel) rfl
theorem lk_c_X5_allWith : Cond.code yX5_allWith cX5_allWith 5 ((some .long)) ∈ fwW := fw_mem (i := 739) (by decide +kernel) rfl
theorem lk_m_X8_251 : Cond.methodLink RX8 251 yX8_partOf ∈ fwW := fw_mem (i := 740) (by decide +kernel) rfl
theorem lk_t_X8_partOf : Cond.static yX8_partOf ∈ fwW := fw_mem (i := 741) (by decide +kernel) rfl
theorem lk_c_X8_partOf : Cond.code yX8_partOf cX8_partOf 12 ((some .long)) ∈ fwW := fw_mem (i := 742) (by decide +kernel) rfl
theorem lk_m_L_128 : Cond.methodLink RL 128 yX8_toTest ∈ fwW := fw_mem (i := 743) (by decide +kernel) rfl
theorem lk_i_X8_toTest : Cond.instanceMethod yX8_toTest ∈ fwW := fw_mem (i := 744) (by decide +kernel) rfl
theorem lk_s_X8_toTest : Cond.selects RX8 yX8_toTest yX8_toTest ∈ fwW := fw_mem (i := 745) (by decide +kernel) rfl
theorem lk_c_X8_toTest : Cond.code yX8_toTest cX8_toTest 1 ((some .int)) ∈ fwW := fw_mem (i := 746) (by decide +kernel) rfl
theorem lk_m_X8_255 : Cond.methodLink RX8 255 yX5_bestSpoon ∈ fwW := fw_mem (i := 747) (by decide +kernel) rfl
theorem lk_i_X5_bestSpoon : Cond.instanceMethod yX5_bestSpoon ∈ fwW := fw_mem (i := 748) (by decide +kernel) rfl
theorem lk_s_X5_bestSpoon : Cond.selects RX5 yX5_bestSpoon yX5_bestSpoon ∈ fwW := fw_mem (i := 749) (by decide +kernel) rfl
theorem lk_c_X5_bestSpoon : Cond.code yX5_bestSpoon cX5_bestSpoon 8 ((some .int)) ∈ fwW := fw_mem (i := 750) (by decide +kernel) rfl
theorem lk_m_X5_111 : Cond.methodLink RX5 111 yX5_setCount ∈ fwW := fw_mem (i := 751) (by decide +kernel) rfl
theorem lk_m_X5_115 : Cond.methodLink RX5 115 yX5_setsWith ∈ fwW := fw_mem (i := 752) (by decide +kernel) rfl
theorem lk_i_X5_setsWith : Cond.instanceMethod yX5_setsWith ∈ fwW := fw_mem (i := 753) (by decide +kernel) rfl
theorem lk_s_X5_setsWith : Cond.selects RX5 yX5_setsWith yX5_setsWith ∈ fwW := fw_mem (i := 754) (by decide +kernel) rfl
theorem lk_c_X5_setsWith : Cond.code yX5_setsWith cX5_setsWith 4 ((some .int)) ∈ fwW := fw_mem (i := 755) (by decide +kernel) rfl
theorem lk_m_X5_118 : Cond.methodLink RX5 118 yJ9_max_7cf53 ∈ fwW := fw_mem (i := 756) (by decide +kernel) rfl
theorem lk_t_J9_max_7cf53 : Cond.static yJ9_max_7cf53 ∈ fwW := fw_mem (i := 757) (by decide +kernel) rfl
theorem lk_c_J9_max_7cf53 : Cond.code yJ9_max_7cf53 cJ9_max_7cf53 2 ((some .int)) ∈ fwW := fw_mem (i := 758) (by decide +kernel) rfl
theorem lk_m_L_132 : Cond.methodLink RL 132 yX8_tests ∈ fwW := fw_mem (i := 759) (by decide +kernel) rfl
theorem lk_i_X8_tests : Cond.instanceMethod yX8_tests ∈ fwW := fw_mem (i := 760) (by decide +kernel) rfl
theorem lk_s_X8_tests : Cond.selects RX8 yX8_tests yX8_tests ∈ fwW := fw_mem (i := 761) (by decide +kernel) rfl
theorem lk_c_X8_tests : Cond.code yX8_tests cX8_tests 1 ((some .int)) ∈ fwW := fw_mem (i := 762) (by decide +kernel) rfl
theorem lk_m_X8_258 : Cond.methodLink RX8 258 yX5_spoonsAtWorst ∈ fwW := fw_mem (i := 763) (by decide +kernel) rfl
theorem lk_i_X5_spoonsAtWorst : Cond.instanceMethod yX5_spoonsAtWorst ∈ fwW := fw_mem (i := 764) (by decide +kernel) rfl
theorem lk_s_X5_spoonsAtWorst : Cond.selects RX5 yX5_spoonsAtWorst yX5_spoonsAtWorst ∈ fwW := fw_mem (i := 765) (by decide +kernel) rfl
theorem lk_c_X5_spoonsAtWorst : Cond.code yX5_spoonsAtWorst cX5_spoonsAtWorst 2 ((some .int)) ∈ fwW := fw_mem (i := 766) (by decide +kernel) rfl
theorem lk_m_X5_124 : Cond.methodLink RX5 124 yX5_fillCube ∈ fwW := fw_mem (i := 767) (by decide +kernel) rfl
theorem lk_i_X5_fillCube : Cond.instanceMethod yX5_fillCube ∈ fwW := fw_mem (i := 769) (by decide +kernel) rfl
theorem lk_c_X5_fillCube : Cond.code yX5_fillCube cX5_fillCube 11 (none) ∈ fwW := fw_mem (i := 770) (by decide +kernel) rfl
theorem lk_n_X5_128 : Cond.methodLinkNest RX5 128 yX8_at "FullMoonWho" ∈ fwN := fn_mem (i := 771) (by decide +kernel) rfl
theorem lk_m_X5_132 : Cond.methodLink RX5 132 yJ9_min_7cf53 ∈ fwW := fw_mem (i := 772) (by decide +kernel) rfl
theorem lk_t_J9_min_7cf53 : Cond.static yJ9_min_7cf53 ∈ fwW := fw_mem (i := 773) (by decide +kernel) rfl
theorem lk_c_J9_min_7cf53 : Cond.code yJ9_min_7cf53 cJ9_min_7cf53 2 ((some .int)) ∈ fwW := fw_mem (i := 774) (by decide +kernel) rfl
theorem lk_n_X5_135 : Cond.methodLinkNest RX5 135 yX8_put "FullMoonWho" ∈ fwN := fn_mem (i := 775) (by decide +kernel) rfl
theorem lk_m_L_136 : Cond.methodLink RL 136 yX8_vote ∈ fwW := fw_mem (i := 776) (by decide +kernel) rfl
theorem lk_i_X8_vote : Cond.instanceMethod yX8_vote ∈ fwW := fw_mem (i := 777) (by decide +kernel) rfl
theorem lk_s_X8_vote : Cond.selects RX8 yX8_vote yX8_vote ∈ fwW := fw_mem (i := 778) (by decide +kernel) rfl
theorem lk_c_X8_vote : Cond.code yX8_vote cX8_vote 2 ((some .int)) ∈ fwW := fw_mem (i := 779) (by decide +kernel) rfl
theorem lk_m_X8_261 : Cond.methodLink RX8 261 yX8_choiceOf ∈ fwW := fw_mem (i := 780) (by decide +kernel) rfl
theorem lk_i_X8_choiceOf : Cond.instanceMethod yX8_choiceOf ∈ fwW := fw_mem (i := 782) (by decide +kernel) rfl
theorem lk_c_X8_choiceOf : Cond.code yX8_choiceOf cX8_choiceOf 7 ((some .int)) ∈ fwW := fw_mem (i := 783) (by decide +kernel) rfl
theorem lk_m_X8_313 : Cond.methodLink RX8 313 yX5_setsWith ∈ fwW := fw_mem (i := 784) (by decide +kernel) rfl
theorem lk_m_L_140 : Cond.methodLink RL 140 yX8_hanged ∈ fwW := fw_mem (i := 785) (by decide +kernel) rfl
theorem lk_i_X8_hanged : Cond.instanceMethod yX8_hanged ∈ fwW := fw_mem (i := 786) (by decide +kernel) rfl
theorem lk_s_X8_hanged : Cond.selects RX8 yX8_hanged yX8_hanged ∈ fwW := fw_mem (i := 787) (by decide +kernel) rfl
theorem lk_c_X8_hanged : Cond.code yX8_hanged cX8_hanged 6 ((some .int)) ∈ fwW := fw_mem (i := 788) (by decide +kernel) rfl
theorem lk_m_X8_264 : Cond.methodLink RX8 264 yX8_withCell ∈ fwW := fw_mem (i := 789) (by decide +kernel) rfl
theorem lk_m_L_144 : Cond.methodLink RL 144 yX8_safe ∈ fwW := fw_mem (i := 790) (by decide +kernel) rfl
theorem lk_i_X8_safe : Cond.instanceMethod yX8_safe ∈ fwW := fw_mem (i := 791) (by decide +kernel) rfl
theorem lk_s_X8_safe : Cond.selects RX8 yX8_safe yX8_safe ∈ fwW := fw_mem (i := 792) (by decide +kernel) rfl
theorem lk_c_X8_safe : Cond.code yX8_safe cX8_safe 5 ((some .int)) ∈ fwW := fw_mem (i := 793) (by decide +kernel) rfl
theorem lk_m_X8_268 : Cond.methodLink RX8 268 yX2_reach ∈ fwW := fw_mem (i := 794) (by decide +kernel) rfl
theorem lk_m_L_148 : Cond.methodLink RL 148 yX8_locked ∈ fwW := fw_mem (i := 795) (by decide +kernel) rfl
theorem lk_i_X8_locked : Cond.instanceMethod yX8_locked ∈ fwW := fw_mem (i := 796) (by decide +kernel) rfl
theorem lk_s_X8_locked : Cond.selects RX8 yX8_locked yX8_locked ∈ fwW := fw_mem (i := 797) (by decide +kernel) rfl
theorem lk_c_X8_locked : Cond.code yX8_locked cX8_locked 4 ((some .int)) ∈ fwW := fw_mem (i := 798) (by decide +kernel) rfl
theorem lk_m_X8_271 : Cond.methodLink RX8 271 yX8_below ∈ fwW := fw_mem (i := 799) (by decide +kernel) rfl
theorem lk_m_X8_274 : Cond.methodLink RX8 274 yJ6_bitCount_0f7a4 ∈ fwW := fw_mem (i := 800) (by decide +kernel) rfl
theorem lk_m_X8_279 : Cond.methodLink RX8 279 yX8_lockedIn ∈ fwW := fw_mem (i := 801) (by decide +kernel) rfl
theorem lk_i_X8_lockedIn : Cond.instanceMethod yX8_lockedIn ∈ fwW := fw_mem (i := 803) (by decide +kernel) rfl
theorem lk_c_X8_lockedIn : Cond.code yX8_lockedIn cX8_lockedIn 7 ((some .boolean)) ∈ fwW := fw_mem (i := 804) (by decide +kernel) rfl
theorem lk_m_X8_306 : Cond.methodLink RX8 306 yX2_openHouses ∈ fwW := fw_mem (i := 805) (by decide +kernel) rfl
theorem lk_m_L_152 : Cond.methodLink RL 152 yX8_danger ∈ fwW := fw_mem (i := 806) (by decide +kernel) rfl
theorem lk_i_X8_danger : Cond.instanceMethod yX8_danger ∈ fwW := fw_mem (i := 807) (by decide +kernel) rfl
theorem lk_s_X8_danger : Cond.selects RX8 yX8_danger yX8_danger ∈ fwW := fw_mem (i := 808) (by decide +kernel) rfl
theorem lk_c_X8_danger : Cond.code yX8_danger cX8_danger 4 ((some .long)) ∈ fwW := fw_mem (i := 809) (by decide +kernel) rfl
theorem lk_l_X8_282 : Cond.constantLong RX8 282 (-2) ∈ fwW := fw_mem (i := 810) (by decide +kernel) rfl
theorem lk_m_X8_284 : Cond.methodLink RX8 284 yX1_ofBeingWolf ∈ fwW := fw_mem (i := 811) (by decide +kernel) rfl
theorem lk_i_X1_ofBeingWolf : Cond.instanceMethod yX1_ofBeingWolf ∈ fwW := fw_mem (i := 812) (by decide +kernel) rfl
theorem lk_s_X1_ofBeingWolf : Cond.selects RX1 yX1_ofBeingWolf yX1_ofBeingWolf ∈ fwW := fw_mem (i := 813) (by decide +kernel) rfl
theorem lk_c_X1_ofBeingWolf : Cond.code yX1_ofBeingWolf cX1_ofBeingWolf 6 ((some .long)) ∈ fwW := fw_mem (i := 814) (by decide +kernel) rfl
theorem lk_n_X1_28 : Cond.methodLinkNest RX1 28 yX8_nightAt "FullMoonWho" ∈ fwN := fn_mem (i := 815) (by decide +kernel) rfl
theorem lk_m_X1_32 : Cond.methodLink RX1 32 yX2_copyFrom ∈ fwW := fw_mem (i := 816) (by decide +kernel) rfl
theorem lk_m_X1_36 : Cond.methodLink RX1 36 yX1_shares ∈ fwW := fw_mem (i := 817) (by decide +kernel) rfl
theorem lk_i_X1_shares : Cond.instanceMethod yX1_shares ∈ fwW := fw_mem (i := 819) (by decide +kernel) rfl
theorem lk_c_X1_shares : Cond.code yX1_shares cX1_shares 15 ((some .long)) ∈ fwW := fw_mem (i := 820) (by decide +kernel) rfl
theorem lk_n_X1_47 : Cond.methodLinkNest RX1 47 yX8_has "FullMoonWho" ∈ fwN := fn_mem (i := 821) (by decide +kernel) rfl
theorem lk_l_X1_51 : Cond.constantLong RX1 51 (6) ∈ fwW := fw_mem (i := 822) (by decide +kernel) rfl
theorem lk_n_X1_56 : Cond.methodLinkNest RX1 56 yX8_powerOf "FullMoonWho" ∈ fwN := fn_mem (i := 823) (by decide +kernel) rfl
theorem lk_m_X1_60 : Cond.methodLink RX1 60 yX1_sharesAfterDawn ∈ fwW := fw_mem (i := 824) (by decide +kernel) rfl
theorem lk_i_X1_sharesAfterDawn : Cond.instanceMethod yX1_sharesAfterDawn ∈ fwW := fw_mem (i := 826) (by decide +kernel) rfl
theorem lk_c_X1_sharesAfterDawn : Cond.code yX1_sharesAfterDawn cX1_sharesAfterDawn 6 ((some .long)) ∈ fwW := fw_mem (i := 827) (by decide +kernel) rfl
theorem lk_m_X1_89 : Cond.methodLink RX1 89 yX2_nextNight ∈ fwW := fw_mem (i := 828) (by decide +kernel) rfl
theorem lk_m_X1_64 : Cond.methodLink RX1 64 yX2_goals ∈ fwW := fw_mem (i := 829) (by decide +kernel) rfl
theorem lk_m_X1_68 : Cond.methodLink RX1 68 yJ6_bitCount_0f7a4 ∈ fwW := fw_mem (i := 830) (by decide +kernel) rfl
theorem lk_n_X1_78 : Cond.methodLinkNest RX1 78 yX8_cell "FullMoonWho" ∈ fwN := fn_mem (i := 831) (by decide +kernel) rfl
theorem lk_n_X1_82 : Cond.methodLinkNest RX1 82 yX8_bit "FullMoonWho" ∈ fwN := fn_mem (i := 832) (by decide +kernel) rfl
theorem lk_m_X1_85 : Cond.methodLink RX1 85 yX2_walk ∈ fwW := fw_mem (i := 833) (by decide +kernel) rfl
theorem lk_l_X8_288 : Cond.constantLong RX8 288 (6) ∈ fwW := fw_mem (i := 834) (by decide +kernel) rfl
theorem lk_m_L_157 : Cond.methodLink RL 157 yX8_seed ∈ fwW := fw_mem (i := 835) (by decide +kernel) rfl
theorem lk_i_X8_seed : Cond.instanceMethod yX8_seed ∈ fwW := fw_mem (i := 836) (by decide +kernel) rfl
theorem lk_s_X8_seed : Cond.selects RX8 yX8_seed yX8_seed ∈ fwW := fw_mem (i := 837) (by decide +kernel) rfl
theorem lk_c_X8_seed : Cond.code yX8_seed cX8_seed 5 ((some .long)) ∈ fwW := fw_mem (i := 838) (by decide +kernel) rfl
theorem lk_m_L_162 : Cond.methodLink RL 162 yX8_years ∈ fwW := fw_mem (i := 839) (by decide +kernel) rfl
theorem lk_i_X8_years : Cond.instanceMethod yX8_years ∈ fwW := fw_mem (i := 840) (by decide +kernel) rfl
theorem lk_s_X8_years : Cond.selects RX8 yX8_years yX8_years ∈ fwW := fw_mem (i := 841) (by decide +kernel) rfl
theorem lk_c_X8_years : Cond.code yX8_years cX8_years 4 ((some .int)) ∈ fwW := fw_mem (i := 842) (by decide +kernel) rfl
theorem lk_m_X8_290 : Cond.methodLink RX8 290 yX8_walkBySeed ∈ fwW := fw_mem (i := 843) (by decide +kernel) rfl
theorem lk_i_X8_walkBySeed : Cond.instanceMethod yX8_walkBySeed ∈ fwW := fw_mem (i := 845) (by decide +kernel) rfl
theorem lk_c_X8_walkBySeed : Cond.code yX8_walkBySeed cX8_walkBySeed 4 (none) ∈ fwW := fw_mem (i := 846) (by decide +kernel) rfl
theorem lk_l_X8_319 : Cond.constantLong RX8 319 (6364136223846793005) ∈ fwW := fw_mem (i := 847) (by decide +kernel) rfl
theorem lk_l_X8_321 : Cond.constantLong RX8 321 (1442695040888963407) ∈ fwW := fw_mem (i := 848) (by decide +kernel) rfl
theorem lk_m_X8_323 : Cond.methodLink RX8 323 yX8_bitNumbered ∈ fwW := fw_mem (i := 849) (by decide +kernel) rfl
theorem lk_m_L_166 : Cond.methodLink RL 166 yX8_keep ∈ fwW := fw_mem (i := 850) (by decide +kernel) rfl
theorem lk_i_X8_keep : Cond.instanceMethod yX8_keep ∈ fwW := fw_mem (i := 851) (by decide +kernel) rfl
theorem lk_s_X8_keep : Cond.selects RX8 yX8_keep yX8_keep ∈ fwW := fw_mem (i := 852) (by decide +kernel) rfl
theorem lk_c_X8_keep : Cond.code yX8_keep cX8_keep 3 ((some .int)) ∈ fwW := fw_mem (i := 853) (by decide +kernel) rfl
theorem lk_m_X8_293 : Cond.methodLink RX8 293 yX8_nightAt ∈ fwW := fw_mem (i := 854) (by decide +kernel) rfl
theorem lk_m_L_170 : Cond.methodLink RL 170 yX8_again ∈ fwW := fw_mem (i := 855) (by decide +kernel) rfl
theorem lk_i_X8_again : Cond.instanceMethod yX8_again ∈ fwW := fw_mem (i := 856) (by decide +kernel) rfl
theorem lk_s_X8_again : Cond.selects RX8 yX8_again yX8_again ∈ fwW := fw_mem (i := 857) (by decide +kernel) rfl
theorem lk_c_X8_again : Cond.code yX8_again cX8_again 3 ((some .int)) ∈ fwW := fw_mem (i := 858) (by decide +kernel) rfl
theorem lk_m_L_174 : Cond.methodLink RL 174 yX8_count ∈ fwW := fw_mem (i := 859) (by decide +kernel) rfl
theorem lk_i_X8_count : Cond.instanceMethod yX8_count ∈ fwW := fw_mem (i := 860) (by decide +kernel) rfl
theorem lk_s_X8_count : Cond.selects RX8 yX8_count yX8_count ∈ fwW := fw_mem (i := 861) (by decide +kernel) rfl
theorem lk_c_X8_count : Cond.code yX8_count cX8_count 2 ((some .int)) ∈ fwW := fw_mem (i := 862) (by decide +kernel) rfl
theorem lk_m_X8_300 : Cond.methodLink RX8 300 yX2_allSheep ∈ fwW := fw_mem (i := 863) (by decide +kernel) rfl
theorem lk_i_X2_allSheep : Cond.instanceMethod yX2_allSheep ∈ fwW := fw_mem (i := 864) (by decide +kernel) rfl
theorem lk_s_X2_allSheep : Cond.selects RX2 yX2_allSheep yX2_allSheep ∈ fwW := fw_mem (i := 865) (by decide +kernel) rfl
theorem lk_c_X2_allSheep : Cond.code yX2_allSheep cX2_allSheep 3 ((some .int)) ∈ fwW := fw_mem (i := 866) (by decide +kernel) rfl
theorem lk_o_L_10 : Cond.classLink RL 10 RX9 ∈ fwW := fw_mem (i := 867) (by decide +kernel) rfl
theorem lk_b_X9 : Cond.instantiable RX9 31 ∈ fwW := fw_mem (i := 868) (by decide +kernel) rfl
theorem lk_m_L_12 : Cond.methodLink RL 12 yX9_init ∈ fwW := fw_mem (i := 869) (by decide +kernel) rfl
theorem lk_i_X9_init : Cond.instanceMethod yX9_init ∈ fwW := fw_mem (i := 870) (by decide +kernel) rfl
theorem lk_c_X9_init : Cond.code yX9_init cX9_init 1 (none) ∈ fwW := fw_mem (i := 871) (by decide +kernel) rfl
theorem lk_m_X9_1 : Cond.methodLink RX9 1 objectInit ∈ fwW := fw_mem (i := 872) (by decide +kernel) rfl
theorem lk_f_X9_69 : Cond.fieldLink RX9 69 "FullMoonWhoModel" "thrown" "I" ∈ fwW := fw_mem (i := 873) (by decide +kernel) rfl
theorem lk_f_X9_73 : Cond.fieldLink RX9 73 "FullMoonWhoModel" "houses" "I" ∈ fwW := fw_mem (i := 874) (by decide +kernel) rfl
theorem lk_f_X9_80 : Cond.fieldLink RX9 80 "FullMoonWhoModel" "people" "I" ∈ fwW := fw_mem (i := 875) (by decide +kernel) rfl
theorem lk_f_X9_156 : Cond.fieldLink RX9 156 "FullMoonWhoModel" "paths" "I" ∈ fwW := fw_mem (i := 876) (by decide +kernel) rfl
theorem lk_f_X9_7 : Cond.fieldLink RX9 7 "FullMoonWhoModel" "path" "[I" ∈ fwW := fw_mem (i := 877) (by decide +kernel) rfl
theorem lk_f_X9_13 : Cond.fieldLink RX9 13 "FullMoonWhoModel" "home" "[I" ∈ fwW := fw_mem (i := 878) (by decide +kernel) rfl
theorem lk_f_X9_16 : Cond.fieldLink RX9 16 "FullMoonWhoModel" "kin" "[I" ∈ fwW := fw_mem (i := 879) (by decide +kernel) rfl
theorem lk_f_X9_19 : Cond.fieldLink RX9 19 "FullMoonWhoModel" "now" "[I" ∈ fwW := fw_mem (i := 880) (by decide +kernel) rfl
theorem lk_f_X9_22 : Cond.fieldLink RX9 22 "FullMoonWhoModel" "was" "[I" ∈ fwW := fw_mem (i := 881) (by decide +kernel) rfl
theorem lk_f_X9_159 : Cond.fieldLink RX9 159 "FullMoonWhoModel" "acts" "I" ∈ fwW := fw_mem (i := 882) (by decide +kernel) rfl
theorem lk_f_X9_25 : Cond.fieldLink RX9 25 "FullMoonWhoModel" "kept" "[I" ∈ fwW := fw_mem (i := 883) (by decide +kernel) rfl
theorem lk_f_X9_28 : Cond.fieldLink RX9 28 "FullMoonWhoModel" "isKept" "[Z" ∈ fwW := fw_mem (i := 884) (by decide +kernel) rfl
theorem lk_f_X9_32 : Cond.fieldLink RX9 32 "FullMoonWhoModel" "text" "[I" ∈ fwW := fw_mem (i := 885) (by decide +kernel) rfl
theorem lk_f_X9_93 : Cond.fieldLink RX9 93 "FullMoonWhoModel" "size" "I" ∈ fwW := fw_mem (i := 886) (by decide +kernel) rfl
theorem lk_f_X9_98 : Cond.fieldLink RX9 98 "FullMoonWhoModel" "at" "I" ∈ fwW := fw_mem (i := 887) (by decide +kernel) rfl
theorem lk_f_X9_109 : Cond.fieldLink RX9 109 "FullMoonWhoModel" "readHouses" "I" ∈ fwW := fw_mem (i := 888) (by decide +kernel) rfl
theorem lk_f_X9_115 : Cond.fieldLink RX9 115 "FullMoonWhoModel" "readPeople" "I" ∈ fwW := fw_mem (i := 889) (by decide +kernel) rfl
theorem lk_f_X9_124 : Cond.fieldLink RX9 124 "FullMoonWhoModel" "readPaths" "I" ∈ fwW := fw_mem (i := 890) (by decide +kernel) rfl
theorem lk_f_X9_35 : Cond.fieldLink RX9 35 "FullMoonWhoModel" "readPath" "[I" ∈ fwW := fw_mem (i := 891) (by decide +kernel) rfl
theorem lk_f_X9_38 : Cond.fieldLink RX9 38 "FullMoonWhoModel" "readHome" "[I" ∈ fwW := fw_mem (i := 892) (by decide +kernel) rfl
theorem lk_f_X9_41 : Cond.fieldLink RX9 41 "FullMoonWhoModel" "readKin" "[I" ∈ fwW := fw_mem (i := 893) (by decide +kernel) rfl
theorem lk_f_X9_44 : Cond.fieldLink RX9 44 "FullMoonWhoModel" "read" "[I" ∈ fwW := fw_mem (i := 894) (by decide +kernel) rfl
theorem lk_f_X9_47 : Cond.fieldLink RX9 47 "FullMoonWhoModel" "sight" "[I" ∈ fwW := fw_mem (i := 895) (by decide +kernel) rfl
theorem lk_f_X9_203 : Cond.fieldLink RX9 203 "FullMoonWhoModel" "sights" "I" ∈ fwW := fw_mem (i := 896) (by decide +kernel) rfl
theorem lk_f_X9_50 : Cond.fieldLink RX9 50 "FullMoonWhoModel" "went" "[I" ∈ fwW := fw_mem (i := 897) (by decide +kernel) rfl
theorem lk_f_X9_53 : Cond.fieldLink RX9 53 "FullMoonWhoModel" "tales" "[J" ∈ fwW := fw_mem (i := 898) (by decide +kernel) rfl
theorem lk_f_X9_57 : Cond.fieldLink RX9 57 "FullMoonWhoModel" "tests" "[I" ∈ fwW := fw_mem (i := 899) (by decide +kernel) rfl
theorem lk_f_X9_60 : Cond.fieldLink RX9 60 "FullMoonWhoModel" "votes" "[I" ∈ fwW := fw_mem (i := 900) (by decide +kernel) rfl
theorem lk_f_X9_63 : Cond.fieldLink RX9 63 "FullMoonWhoModel" "begun" "[I" ∈ fwW := fw_mem (i := 901) (by decide +kernel) rfl
theorem lk_f_X9_66 : Cond.fieldLink RX9 66 "FullMoonWhoModel" "between" "[I" ∈ fwW := fw_mem (i := 902) (by decide +kernel) rfl
theorem lk_f_X9_273 : Cond.fieldLink RX9 273 "FullMoonWhoModel" "drawn" "J" ∈ fwW := fw_mem (i := 903) (by decide +kernel) rfl
theorem lk_y_X9_thrown : Cond.lays RX9 RX9 "thrown" "I" ∈ fwW := fw_mem (i := 904) (by decide +kernel) rfl
theorem lk_y_X9_houses : Cond.lays RX9 RX9 "houses" "I" ∈ fwW := fw_mem (i := 906) (by decide +kernel) rfl
theorem lk_y_X9_people : Cond.lays RX9 RX9 "people" "I" ∈ fwW := fw_mem (i := 908) (by decide +kernel) rfl
theorem lk_y_X9_paths : Cond.lays RX9 RX9 "paths" "I" ∈ fwW := fw_mem (i := 910) (by decide +kernel) rfl
theorem lk_y_X9_path : Cond.laysFinal RX9 RX9 "path" "[I" ∈ fwW := fw_mem (i := 912) (by decide +kernel) rfl
theorem lk_y_X9_home : Cond.laysFinal RX9 RX9 "home" "[I" ∈ fwW := fw_mem (i := 914) (by decide +kernel) rfl
theorem lk_y_X9_kin : Cond.laysFinal RX9 RX9 "kin" "[I" ∈ fwW := fw_mem (i := 916) (by decide +kernel) rfl
theorem lk_y_X9_now : Cond.laysFinal RX9 RX9 "now" "[I" ∈ fwW := fw_mem (i := 918) (by decide +kernel) rfl
theorem lk_y_X9_was : Cond.laysFinal RX9 RX9 "was" "[I" ∈ fwW := fw_mem (i := 920) (by decide +kernel) rfl
theorem lk_y_X9_acts : Cond.lays RX9 RX9 "acts" "I" ∈ fwW := fw_mem (i := 922) (by decide +kernel) rfl
theorem lk_y_X9_kept : Cond.laysFinal RX9 RX9 "kept" "[I" ∈ fwW := fw_mem (i := 924) (by decide +kernel) rfl
theorem lk_y_X9_isKept : Cond.laysFinal RX9 RX9 "isKept" "[Z" ∈ fwW := fw_mem (i := 926) (by decide +kernel) rfl
theorem lk_y_X9_text : Cond.laysFinal RX9 RX9 "text" "[I" ∈ fwW := fw_mem (i := 928) (by decide +kernel) rfl
theorem lk_y_X9_size : Cond.lays RX9 RX9 "size" "I" ∈ fwW := fw_mem (i := 930) (by decide +kernel) rfl
theorem lk_y_X9_at : Cond.lays RX9 RX9 "at" "I" ∈ fwW := fw_mem (i := 932) (by decide +kernel) rfl
theorem lk_y_X9_readHouses : Cond.lays RX9 RX9 "readHouses" "I" ∈ fwW := fw_mem (i := 934) (by decide +kernel) rfl
theorem lk_y_X9_readPeople : Cond.lays RX9 RX9 "readPeople" "I" ∈ fwW := fw_mem (i := 936) (by decide +kernel) rfl
theorem lk_y_X9_readPaths : Cond.lays RX9 RX9 "readPaths" "I" ∈ fwW := fw_mem (i := 938) (by decide +kernel) rfl
theorem lk_y_X9_readPath : Cond.laysFinal RX9 RX9 "readPath" "[I" ∈ fwW := fw_mem (i := 940) (by decide +kernel) rfl
theorem lk_y_X9_readHome : Cond.laysFinal RX9 RX9 "readHome" "[I" ∈ fwW := fw_mem (i := 942) (by decide +kernel) rfl
theorem lk_y_X9_readKin : Cond.laysFinal RX9 RX9 "readKin" "[I" ∈ fwW := fw_mem (i := 944) (by decide +kernel) rfl
theorem lk_y_X9_read : Cond.laysFinal RX9 RX9 "read" "[I" ∈ fwW := fw_mem (i := 946) (by decide +kernel) rfl
theorem lk_y_X9_sight : Cond.laysFinal RX9 RX9 "sight" "[I" ∈ fwW := fw_mem (i := 948) (by decide +kernel) rfl
theorem lk_y_X9_sights : Cond.lays RX9 RX9 "sights" "I" ∈ fwW := fw_mem (i := 950) (by decide +kernel) rfl
theorem lk_y_X9_went : Cond.laysFinal RX9 RX9 "went" "[I" ∈ fwW := fw_mem (i := 952) (by decide +kernel) rfl
theorem lk_y_X9_tales : Cond.laysFinal RX9 RX9 "tales" "[J" ∈ fwW := fw_mem (i := 954) (by decide +kernel) rfl
theorem lk_y_X9_tests : Cond.laysFinal RX9 RX9 "tests" "[I" ∈ fwW := fw_mem (i := 956) (by decide +kernel) rfl
theorem lk_y_X9_votes : Cond.laysFinal RX9 RX9 "votes" "[I" ∈ fwW := fw_mem (i := 958) (by decide +kernel) rfl
theorem lk_y_X9_begun : Cond.laysFinal RX9 RX9 "begun" "[I" ∈ fwW := fw_mem (i := 960) (by decide +kernel) rfl
theorem lk_y_X9_between : Cond.laysFinal RX9 RX9 "between" "[I" ∈ fwW := fw_mem (i := 962) (by decide +kernel) rfl
theorem lk_y_X9_drawn : Cond.lays RX9 RX9 "drawn" "J" ∈ fwW := fw_mem (i := 964) (by decide +kernel) rfl
theorem lk_a_boolean : Cond.arrayClass .boolean ∈ fwW := fw_mem (i := 967) (by decide +kernel) rfl
theorem lk_m_L_19 : Cond.methodLink RL 19 yX9_write ∈ fwW := fw_mem (i := 968) (by decide +kernel) rfl
theorem lk_i_X9_write : Cond.instanceMethod yX9_write ∈ fwW := fw_mem (i := 969) (by decide +kernel) rfl
theorem lk_s_X9_write : Cond.selects RX9 yX9_write yX9_write ∈ fwW := fw_mem (i := 970) (by decide +kernel) rfl
theorem lk_c_X9_write : Cond.code yX9_write cX9_write 5 ((some .int)) ∈ fwW := fw_mem (i := 971) (by decide +kernel) rfl
theorem lk_l_X9_91 : Cond.constantLong RX9 91 (8) ∈ fwW := fw_mem (i := 972) (by decide +kernel) rfl
theorem lk_m_X9_76 : Cond.methodLink RX9 76 yX9_in ∈ fwW := fw_mem (i := 973) (by decide +kernel) rfl
theorem lk_t_X9_in : Cond.static yX9_in ∈ fwW := fw_mem (i := 974) (by decide +kernel) rfl
theorem lk_c_X9_in : Cond.code yX9_in cX9_in 6 ((some .boolean)) ∈ fwW := fw_mem (i := 975) (by decide +kernel) rfl
theorem lk_l_X9_96 : Cond.constantLong RX9 96 (255) ∈ fwW := fw_mem (i := 976) (by decide +kernel) rfl
theorem lk_m_L_24 : Cond.methodLink RL 24 yX9_wipe ∈ fwW := fw_mem (i := 977) (by decide +kernel) rfl
theorem lk_i_X9_wipe : Cond.instanceMethod yX9_wipe ∈ fwW := fw_mem (i := 978) (by decide +kernel) rfl
theorem lk_s_X9_wipe : Cond.selects RX9 yX9_wipe yX9_wipe ∈ fwW := fw_mem (i := 979) (by decide +kernel) rfl
theorem lk_c_X9_wipe : Cond.code yX9_wipe cX9_wipe 2 ((some .int)) ∈ fwW := fw_mem (i := 980) (by decide +kernel) rfl
theorem lk_m_L_28 : Cond.methodLink RL 28 yX9_fault ∈ fwW := fw_mem (i := 981) (by decide +kernel) rfl
theorem lk_i_X9_fault : Cond.instanceMethod yX9_fault ∈ fwW := fw_mem (i := 982) (by decide +kernel) rfl
theorem lk_s_X9_fault : Cond.selects RX9 yX9_fault yX9_fault ∈ fwW := fw_mem (i := 983) (by decide +kernel) rfl
theorem lk_c_X9_fault : Cond.code yX9_fault cX9_fault 1 ((some .int)) ∈ fwW := fw_mem (i := 984) (by decide +kernel) rfl
theorem lk_m_X9_153 : Cond.methodLink RX9 153 yX9_readAll ∈ fwW := fw_mem (i := 985) (by decide +kernel) rfl
theorem lk_i_X9_readAll : Cond.instanceMethod yX9_readAll ∈ fwW := fw_mem (i := 987) (by decide +kernel) rfl
theorem lk_c_X9_readAll : Cond.code yX9_readAll cX9_readAll 2 ((some .int)) ∈ fwW := fw_mem (i := 988) (by decide +kernel) rfl
theorem lk_m_X9_150 : Cond.methodLink RX9 150 yX9_readPart ∈ fwW := fw_mem (i := 989) (by decide +kernel) rfl
theorem lk_i_X9_readPart : Cond.instanceMethod yX9_readPart ∈ fwW := fw_mem (i := 991) (by decide +kernel) rfl
theorem lk_c_X9_readPart : Cond.code yX9_readPart cX9_readPart 3 ((some .boolean)) ∈ fwW := fw_mem (i := 992) (by decide +kernel) rfl
theorem lk_m_X9_131 : Cond.methodLink RX9 131 yX9_hasAnyWay ∈ fwW := fw_mem (i := 993) (by decide +kernel) rfl
theorem lk_i_X9_hasAnyWay : Cond.instanceMethod yX9_hasAnyWay ∈ fwW := fw_mem (i := 995) (by decide +kernel) rfl
theorem lk_c_X9_hasAnyWay : Cond.code yX9_hasAnyWay cX9_hasAnyWay 3 ((some .boolean)) ∈ fwW := fw_mem (i := 996) (by decide +kernel) rfl
theorem lk_m_X9_112 : Cond.methodLink RX9 112 yX9_hasWay ∈ fwW := fw_mem (i := 997) (by decide +kernel) rfl
theorem lk_i_X9_hasWay : Cond.instanceMethod yX9_hasWay ∈ fwW := fw_mem (i := 999) (by decide +kernel) rfl
theorem lk_c_X9_hasWay : Cond.code yX9_hasWay cX9_hasWay 4 ((some .boolean)) ∈ fwW := fw_mem (i := 1000) (by decide +kernel) rfl
theorem lk_m_X9_135 : Cond.methodLink RX9 135 yX9_hasAnyOther ∈ fwW := fw_mem (i := 1001) (by decide +kernel) rfl
theorem lk_i_X9_hasAnyOther : Cond.instanceMethod yX9_hasAnyOther ∈ fwW := fw_mem (i := 1003) (by decide +kernel) rfl
theorem lk_c_X9_hasAnyOther : Cond.code yX9_hasAnyOther cX9_hasAnyOther 3 ((some .boolean)) ∈ fwW := fw_mem (i := 1004) (by decide +kernel) rfl
theorem lk_m_X9_118 : Cond.methodLink RX9 118 yX9_hasOther ∈ fwW := fw_mem (i := 1005) (by decide +kernel) rfl
theorem lk_i_X9_hasOther : Cond.instanceMethod yX9_hasOther ∈ fwW := fw_mem (i := 1007) (by decide +kernel) rfl
theorem lk_c_X9_hasOther : Cond.code yX9_hasOther cX9_hasOther 2 ((some .boolean)) ∈ fwW := fw_mem (i := 1008) (by decide +kernel) rfl
theorem lk_m_X9_138 : Cond.methodLink RX9 138 yX9_readHouse ∈ fwW := fw_mem (i := 1009) (by decide +kernel) rfl
theorem lk_i_X9_readHouse : Cond.instanceMethod yX9_readHouse ∈ fwW := fw_mem (i := 1011) (by decide +kernel) rfl
theorem lk_c_X9_readHouse : Cond.code yX9_readHouse cX9_readHouse 2 ((some .boolean)) ∈ fwW := fw_mem (i := 1012) (by decide +kernel) rfl
theorem lk_m_X9_121 : Cond.methodLink RX9 121 yX9_takes ∈ fwW := fw_mem (i := 1013) (by decide +kernel) rfl
theorem lk_i_X9_takes : Cond.instanceMethod yX9_takes ∈ fwW := fw_mem (i := 1015) (by decide +kernel) rfl
theorem lk_c_X9_takes : Cond.code yX9_takes cX9_takes 3 ((some .boolean)) ∈ fwW := fw_mem (i := 1016) (by decide +kernel) rfl
theorem lk_m_X9_105 : Cond.methodLink RX9 105 yX9_peek ∈ fwW := fw_mem (i := 1017) (by decide +kernel) rfl
theorem lk_i_X9_peek : Cond.instanceMethod yX9_peek ∈ fwW := fw_mem (i := 1019) (by decide +kernel) rfl
theorem lk_c_X9_peek : Cond.code yX9_peek cX9_peek 1 ((some .int)) ∈ fwW := fw_mem (i := 1020) (by decide +kernel) rfl
theorem lk_l_X9_101 : Cond.constantLong RX9 101 (48) ∈ fwW := fw_mem (i := 1021) (by decide +kernel) rfl
theorem lk_l_X9_103 : Cond.constantLong RX9 103 (57) ∈ fwW := fw_mem (i := 1022) (by decide +kernel) rfl
theorem lk_m_X9_141 : Cond.methodLink RX9 141 yX9_readWay ∈ fwW := fw_mem (i := 1023) (by decide +kernel) rfl
theorem lk_i_X9_readWay : Cond.instanceMethod yX9_readWay ∈ fwW := fw_mem (i := 1025) (by decide +kernel) rfl
theorem lk_c_X9_readWay : Cond.code yX9_readWay cX9_readWay 3 ((some .boolean)) ∈ fwW := fw_mem (i := 1026) (by decide +kernel) rfl
theorem lk_m_X9_144 : Cond.methodLink RX9 144 yX9_readPerson ∈ fwW := fw_mem (i := 1027) (by decide +kernel) rfl
theorem lk_i_X9_readPerson : Cond.instanceMethod yX9_readPerson ∈ fwW := fw_mem (i := 1029) (by decide +kernel) rfl
theorem lk_c_X9_readPerson : Cond.code yX9_readPerson cX9_readPerson 2 ((some .boolean)) ∈ fwW := fw_mem (i := 1030) (by decide +kernel) rfl
theorem lk_m_X9_147 : Cond.methodLink RX9 147 yX9_readTwo ∈ fwW := fw_mem (i := 1031) (by decide +kernel) rfl
theorem lk_i_X9_readTwo : Cond.instanceMethod yX9_readTwo ∈ fwW := fw_mem (i := 1033) (by decide +kernel) rfl
theorem lk_c_X9_readTwo : Cond.code yX9_readTwo cX9_readTwo 3 ((some .boolean)) ∈ fwW := fw_mem (i := 1034) (by decide +kernel) rfl
theorem lk_m_X9_127 : Cond.methodLink RX9 127 yX9_has ∈ fwW := fw_mem (i := 1035) (by decide +kernel) rfl
theorem lk_t_X9_has : Cond.static yX9_has ∈ fwW := fw_mem (i := 1036) (by decide +kernel) rfl
theorem lk_c_X9_has : Cond.code yX9_has cX9_has 2 ((some .boolean)) ∈ fwW := fw_mem (i := 1037) (by decide +kernel) rfl
theorem lk_m_L_32 : Cond.methodLink RL 32 yX9_village ∈ fwW := fw_mem (i := 1038) (by decide +kernel) rfl
theorem lk_i_X9_village : Cond.instanceMethod yX9_village ∈ fwW := fw_mem (i := 1039) (by decide +kernel) rfl
theorem lk_s_X9_village : Cond.selects RX9 yX9_village yX9_village ∈ fwW := fw_mem (i := 1040) (by decide +kernel) rfl
theorem lk_c_X9_village : Cond.code yX9_village cX9_village 2 ((some .int)) ∈ fwW := fw_mem (i := 1041) (by decide +kernel) rfl
theorem lk_m_L_37 : Cond.methodLink RL 37 yX9_house ∈ fwW := fw_mem (i := 1042) (by decide +kernel) rfl
theorem lk_i_X9_house : Cond.instanceMethod yX9_house ∈ fwW := fw_mem (i := 1043) (by decide +kernel) rfl
theorem lk_s_X9_house : Cond.selects RX9 yX9_house yX9_house ∈ fwW := fw_mem (i := 1044) (by decide +kernel) rfl
theorem lk_c_X9_house : Cond.code yX9_house cX9_house 5 ((some .int)) ∈ fwW := fw_mem (i := 1045) (by decide +kernel) rfl
theorem lk_m_X9_162 : Cond.methodLink RX9 162 yX9_noHouse ∈ fwW := fw_mem (i := 1046) (by decide +kernel) rfl
theorem lk_i_X9_noHouse : Cond.instanceMethod yX9_noHouse ∈ fwW := fw_mem (i := 1048) (by decide +kernel) rfl
theorem lk_c_X9_noHouse : Cond.code yX9_noHouse cX9_noHouse 2 ((some .boolean)) ∈ fwW := fw_mem (i := 1049) (by decide +kernel) rfl
theorem lk_m_X9_165 : Cond.methodLink RX9 165 yX9_nextTo ∈ fwW := fw_mem (i := 1050) (by decide +kernel) rfl
theorem lk_i_X9_nextTo : Cond.instanceMethod yX9_nextTo ∈ fwW := fw_mem (i := 1052) (by decide +kernel) rfl
theorem lk_c_X9_nextTo : Cond.code yX9_nextTo cX9_nextTo 5 ((some .int)) ∈ fwW := fw_mem (i := 1053) (by decide +kernel) rfl
theorem lk_m_L_41 : Cond.methodLink RL 41 yX9_person ∈ fwW := fw_mem (i := 1054) (by decide +kernel) rfl
theorem lk_i_X9_person : Cond.instanceMethod yX9_person ∈ fwW := fw_mem (i := 1055) (by decide +kernel) rfl
theorem lk_s_X9_person : Cond.selects RX9 yX9_person yX9_person ∈ fwW := fw_mem (i := 1056) (by decide +kernel) rfl
theorem lk_c_X9_person : Cond.code yX9_person cX9_person 3 ((some .int)) ∈ fwW := fw_mem (i := 1057) (by decide +kernel) rfl
theorem lk_m_X9_168 : Cond.methodLink RX9 168 yX9_noOne ∈ fwW := fw_mem (i := 1058) (by decide +kernel) rfl
theorem lk_i_X9_noOne : Cond.instanceMethod yX9_noOne ∈ fwW := fw_mem (i := 1060) (by decide +kernel) rfl
theorem lk_c_X9_noOne : Cond.code yX9_noOne cX9_noOne 2 ((some .boolean)) ∈ fwW := fw_mem (i := 1061) (by decide +kernel) rfl
theorem lk_m_X9_83 : Cond.methodLink RX9 83 yX9_of ∈ fwW := fw_mem (i := 1062) (by decide +kernel) rfl
theorem lk_i_X9_of : Cond.instanceMethod yX9_of ∈ fwW := fw_mem (i := 1064) (by decide +kernel) rfl
theorem lk_c_X9_of : Cond.code yX9_of cX9_of 3 ((some .int)) ∈ fwW := fw_mem (i := 1065) (by decide +kernel) rfl
theorem lk_m_L_46 : Cond.methodLink RL 46 yX9_may ∈ fwW := fw_mem (i := 1066) (by decide +kernel) rfl
theorem lk_i_X9_may : Cond.instanceMethod yX9_may ∈ fwW := fw_mem (i := 1067) (by decide +kernel) rfl
theorem lk_s_X9_may : Cond.selects RX9 yX9_may yX9_may ∈ fwW := fw_mem (i := 1068) (by decide +kernel) rfl
theorem lk_c_X9_may : Cond.code yX9_may cX9_may 2 ((some .int)) ∈ fwW := fw_mem (i := 1069) (by decide +kernel) rfl
theorem lk_m_X9_178 : Cond.methodLink RX9 178 yX9_mayOf ∈ fwW := fw_mem (i := 1070) (by decide +kernel) rfl
theorem lk_i_X9_mayOf : Cond.instanceMethod yX9_mayOf ∈ fwW := fw_mem (i := 1072) (by decide +kernel) rfl
theorem lk_c_X9_mayOf : Cond.code yX9_mayOf cX9_mayOf 2 ((some .int)) ∈ fwW := fw_mem (i := 1073) (by decide +kernel) rfl
theorem lk_m_X9_87 : Cond.methodLink RX9 87 yX9_isThere ∈ fwW := fw_mem (i := 1074) (by decide +kernel) rfl
theorem lk_i_X9_isThere : Cond.instanceMethod yX9_isThere ∈ fwW := fw_mem (i := 1076) (by decide +kernel) rfl
theorem lk_c_X9_isThere : Cond.code yX9_isThere cX9_isThere 2 ((some .boolean)) ∈ fwW := fw_mem (i := 1077) (by decide +kernel) rfl
theorem lk_m_X9_174 : Cond.methodLink RX9 174 yX9_goesTo ∈ fwW := fw_mem (i := 1078) (by decide +kernel) rfl
theorem lk_i_X9_goesTo : Cond.instanceMethod yX9_goesTo ∈ fwW := fw_mem (i := 1080) (by decide +kernel) rfl
theorem lk_c_X9_goesTo : Cond.code yX9_goesTo cX9_goesTo 2 ((some .int)) ∈ fwW := fw_mem (i := 1081) (by decide +kernel) rfl
theorem lk_m_X9_171 : Cond.methodLink RX9 171 yX9_open ∈ fwW := fw_mem (i := 1082) (by decide +kernel) rfl
theorem lk_i_X9_open : Cond.instanceMethod yX9_open ∈ fwW := fw_mem (i := 1084) (by decide +kernel) rfl
theorem lk_c_X9_open : Cond.code yX9_open cX9_open 3 ((some .int)) ∈ fwW := fw_mem (i := 1085) (by decide +kernel) rfl
theorem lk_m_L_50 : Cond.methodLink RL 50 yX9_prey ∈ fwW := fw_mem (i := 1086) (by decide +kernel) rfl
theorem lk_i_X9_prey : Cond.instanceMethod yX9_prey ∈ fwW := fw_mem (i := 1087) (by decide +kernel) rfl
theorem lk_s_X9_prey : Cond.selects RX9 yX9_prey yX9_prey ∈ fwW := fw_mem (i := 1088) (by decide +kernel) rfl
theorem lk_c_X9_prey : Cond.code yX9_prey cX9_prey 3 ((some .int)) ∈ fwW := fw_mem (i := 1089) (by decide +kernel) rfl
theorem lk_m_X9_181 : Cond.methodLink RX9 181 yX9_preyOf ∈ fwW := fw_mem (i := 1090) (by decide +kernel) rfl
theorem lk_i_X9_preyOf : Cond.instanceMethod yX9_preyOf ∈ fwW := fw_mem (i := 1092) (by decide +kernel) rfl
theorem lk_c_X9_preyOf : Cond.code yX9_preyOf cX9_preyOf 4 ((some .int)) ∈ fwW := fw_mem (i := 1093) (by decide +kernel) rfl
theorem lk_m_L_54 : Cond.methodLink RL 54 yX9_visit ∈ fwW := fw_mem (i := 1094) (by decide +kernel) rfl
theorem lk_i_X9_visit : Cond.instanceMethod yX9_visit ∈ fwW := fw_mem (i := 1095) (by decide +kernel) rfl
theorem lk_s_X9_visit : Cond.selects RX9 yX9_visit yX9_visit ∈ fwW := fw_mem (i := 1096) (by decide +kernel) rfl
theorem lk_c_X9_visit : Cond.code yX9_visit cX9_visit 3 ((some .int)) ∈ fwW := fw_mem (i := 1097) (by decide +kernel) rfl
theorem lk_m_X9_184 : Cond.methodLink RX9 184 yX9_keeps ∈ fwW := fw_mem (i := 1098) (by decide +kernel) rfl
theorem lk_i_X9_keeps : Cond.instanceMethod yX9_keeps ∈ fwW := fw_mem (i := 1100) (by decide +kernel) rfl
theorem lk_c_X9_keeps : Cond.code yX9_keeps cX9_keeps 2 (none) ∈ fwW := fw_mem (i := 1101) (by decide +kernel) rfl
theorem lk_m_X9_187 : Cond.methodLink RX9 187 yX9_visits ∈ fwW := fw_mem (i := 1102) (by decide +kernel) rfl
theorem lk_i_X9_visits : Cond.instanceMethod yX9_visits ∈ fwW := fw_mem (i := 1104) (by decide +kernel) rfl
theorem lk_c_X9_visits : Cond.code yX9_visits cX9_visits 4 ((some .int)) ∈ fwW := fw_mem (i := 1105) (by decide +kernel) rfl
theorem lk_m_L_58 : Cond.methodLink RL 58 yX9_dawn ∈ fwW := fw_mem (i := 1106) (by decide +kernel) rfl
theorem lk_i_X9_dawn : Cond.instanceMethod yX9_dawn ∈ fwW := fw_mem (i := 1107) (by decide +kernel) rfl
theorem lk_s_X9_dawn : Cond.selects RX9 yX9_dawn yX9_dawn ∈ fwW := fw_mem (i := 1108) (by decide +kernel) rfl
theorem lk_c_X9_dawn : Cond.code yX9_dawn cX9_dawn 1 ((some .int)) ∈ fwW := fw_mem (i := 1109) (by decide +kernel) rfl
theorem lk_m_X9_190 : Cond.methodLink RX9 190 yX9_dawns ∈ fwW := fw_mem (i := 1110) (by decide +kernel) rfl
theorem lk_i_X9_dawns : Cond.instanceMethod yX9_dawns ∈ fwW := fw_mem (i := 1112) (by decide +kernel) rfl
theorem lk_c_X9_dawns : Cond.code yX9_dawns cX9_dawns 4 ((some .int)) ∈ fwW := fw_mem (i := 1113) (by decide +kernel) rfl
theorem lk_m_L_62 : Cond.methodLink RL 62 yX9_hang ∈ fwW := fw_mem (i := 1114) (by decide +kernel) rfl
theorem lk_i_X9_hang : Cond.instanceMethod yX9_hang ∈ fwW := fw_mem (i := 1115) (by decide +kernel) rfl
theorem lk_s_X9_hang : Cond.selects RX9 yX9_hang yX9_hang ∈ fwW := fw_mem (i := 1116) (by decide +kernel) rfl
theorem lk_c_X9_hang : Cond.code yX9_hang cX9_hang 2 ((some .int)) ∈ fwW := fw_mem (i := 1117) (by decide +kernel) rfl
theorem lk_m_L_66 : Cond.methodLink RL 66 yX9_bolt ∈ fwW := fw_mem (i := 1118) (by decide +kernel) rfl
theorem lk_i_X9_bolt : Cond.instanceMethod yX9_bolt ∈ fwW := fw_mem (i := 1119) (by decide +kernel) rfl
theorem lk_s_X9_bolt : Cond.selects RX9 yX9_bolt yX9_bolt ∈ fwW := fw_mem (i := 1120) (by decide +kernel) rfl
theorem lk_c_X9_bolt : Cond.code yX9_bolt cX9_bolt 4 ((some .int)) ∈ fwW := fw_mem (i := 1121) (by decide +kernel) rfl
theorem lk_l_X9_193 : Cond.constantLong RX9 193 (2) ∈ fwW := fw_mem (i := 1122) (by decide +kernel) rfl
theorem lk_m_L_70 : Cond.methodLink RL 70 yX9_undo ∈ fwW := fw_mem (i := 1123) (by decide +kernel) rfl
theorem lk_i_X9_undo : Cond.instanceMethod yX9_undo ∈ fwW := fw_mem (i := 1124) (by decide +kernel) rfl
theorem lk_s_X9_undo : Cond.selects RX9 yX9_undo yX9_undo ∈ fwW := fw_mem (i := 1125) (by decide +kernel) rfl
theorem lk_c_X9_undo : Cond.code yX9_undo cX9_undo 2 ((some .int)) ∈ fwW := fw_mem (i := 1126) (by decide +kernel) rfl
theorem lk_m_L_74 : Cond.methodLink RL 74 yX9_judge ∈ fwW := fw_mem (i := 1127) (by decide +kernel) rfl
theorem lk_i_X9_judge : Cond.instanceMethod yX9_judge ∈ fwW := fw_mem (i := 1128) (by decide +kernel) rfl
theorem lk_s_X9_judge : Cond.selects RX9 yX9_judge yX9_judge ∈ fwW := fw_mem (i := 1129) (by decide +kernel) rfl
theorem lk_c_X9_judge : Cond.code yX9_judge cX9_judge 9 ((some .int)) ∈ fwW := fw_mem (i := 1130) (by decide +kernel) rfl
theorem lk_l_X9_195 : Cond.constantLong RX9 195 (4) ∈ fwW := fw_mem (i := 1131) (by decide +kernel) rfl
theorem lk_m_L_78 : Cond.methodLink RL 78 yX9_first ∈ fwW := fw_mem (i := 1132) (by decide +kernel) rfl
theorem lk_i_X9_first : Cond.instanceMethod yX9_first ∈ fwW := fw_mem (i := 1133) (by decide +kernel) rfl
theorem lk_s_X9_first : Cond.selects RX9 yX9_first yX9_first ∈ fwW := fw_mem (i := 1134) (by decide +kernel) rfl
theorem lk_c_X9_first : Cond.code yX9_first cX9_first 2 ((some .int)) ∈ fwW := fw_mem (i := 1135) (by decide +kernel) rfl
theorem lk_m_X9_197 : Cond.methodLink RX9 197 yX9_firstOf ∈ fwW := fw_mem (i := 1136) (by decide +kernel) rfl
theorem lk_i_X9_firstOf : Cond.instanceMethod yX9_firstOf ∈ fwW := fw_mem (i := 1138) (by decide +kernel) rfl
theorem lk_c_X9_firstOf : Cond.code yX9_firstOf cX9_firstOf 3 ((some .int)) ∈ fwW := fw_mem (i := 1139) (by decide +kernel) rfl
theorem lk_m_L_82 : Cond.methodLink RL 82 yX9_line ∈ fwW := fw_mem (i := 1140) (by decide +kernel) rfl
theorem lk_i_X9_line : Cond.instanceMethod yX9_line ∈ fwW := fw_mem (i := 1141) (by decide +kernel) rfl
theorem lk_s_X9_line : Cond.selects RX9 yX9_line yX9_line ∈ fwW := fw_mem (i := 1142) (by decide +kernel) rfl
theorem lk_c_X9_line : Cond.code yX9_line cX9_line 2 ((some .int)) ∈ fwW := fw_mem (i := 1143) (by decide +kernel) rfl
theorem lk_m_X9_200 : Cond.methodLink RX9 200 yX9_lineOf ∈ fwW := fw_mem (i := 1144) (by decide +kernel) rfl
theorem lk_i_X9_lineOf : Cond.instanceMethod yX9_lineOf ∈ fwW := fw_mem (i := 1146) (by decide +kernel) rfl
theorem lk_c_X9_lineOf : Cond.code yX9_lineOf cX9_lineOf 4 ((some .int)) ∈ fwW := fw_mem (i := 1147) (by decide +kernel) rfl
theorem lk_m_L_86 : Cond.methodLink RL 86 yX9_brood ∈ fwW := fw_mem (i := 1148) (by decide +kernel) rfl
theorem lk_i_X9_brood : Cond.instanceMethod yX9_brood ∈ fwW := fw_mem (i := 1149) (by decide +kernel) rfl
theorem lk_s_X9_brood : Cond.selects RX9 yX9_brood yX9_brood ∈ fwW := fw_mem (i := 1150) (by decide +kernel) rfl
theorem lk_c_X9_brood : Cond.code yX9_brood cX9_brood 4 ((some .int)) ∈ fwW := fw_mem (i := 1151) (by decide +kernel) rfl
theorem lk_m_L_91 : Cond.methodLink RL 91 yX9_track ∈ fwW := fw_mem (i := 1152) (by decide +kernel) rfl
theorem lk_i_X9_track : Cond.instanceMethod yX9_track ∈ fwW := fw_mem (i := 1153) (by decide +kernel) rfl
theorem lk_s_X9_track : Cond.selects RX9 yX9_track yX9_track ∈ fwW := fw_mem (i := 1154) (by decide +kernel) rfl
theorem lk_c_X9_track : Cond.code yX9_track cX9_track 4 ((some .int)) ∈ fwW := fw_mem (i := 1155) (by decide +kernel) rfl
theorem lk_l_X9_206 : Cond.constantLong RX9 206 (6) ∈ fwW := fw_mem (i := 1156) (by decide +kernel) rfl
theorem lk_m_X9_208 : Cond.methodLink RX9 208 yX9_sees ∈ fwW := fw_mem (i := 1157) (by decide +kernel) rfl
theorem lk_i_X9_sees : Cond.instanceMethod yX9_sees ∈ fwW := fw_mem (i := 1159) (by decide +kernel) rfl
theorem lk_c_X9_sees : Cond.code yX9_sees cX9_sees 5 ((some .int)) ∈ fwW := fw_mem (i := 1160) (by decide +kernel) rfl
theorem lk_m_L_96 : Cond.methodLink RL 96 yX9_hungry ∈ fwW := fw_mem (i := 1161) (by decide +kernel) rfl
theorem lk_i_X9_hungry : Cond.instanceMethod yX9_hungry ∈ fwW := fw_mem (i := 1162) (by decide +kernel) rfl
theorem lk_s_X9_hungry : Cond.selects RX9 yX9_hungry yX9_hungry ∈ fwW := fw_mem (i := 1163) (by decide +kernel) rfl
theorem lk_c_X9_hungry : Cond.code yX9_hungry cX9_hungry 4 ((some .int)) ∈ fwW := fw_mem (i := 1164) (by decide +kernel) rfl
theorem lk_m_L_101 : Cond.methodLink RL 101 yX9_spoon ∈ fwW := fw_mem (i := 1165) (by decide +kernel) rfl
theorem lk_i_X9_spoon : Cond.instanceMethod yX9_spoon ∈ fwW := fw_mem (i := 1166) (by decide +kernel) rfl
theorem lk_s_X9_spoon : Cond.selects RX9 yX9_spoon yX9_spoon ∈ fwW := fw_mem (i := 1167) (by decide +kernel) rfl
theorem lk_c_X9_spoon : Cond.code yX9_spoon cX9_spoon 3 ((some .int)) ∈ fwW := fw_mem (i := 1168) (by decide +kernel) rfl
theorem lk_m_L_105 : Cond.methodLink RL 105 yX9_unsee ∈ fwW := fw_mem (i := 1169) (by decide +kernel) rfl
theorem lk_i_X9_unsee : Cond.instanceMethod yX9_unsee ∈ fwW := fw_mem (i := 1170) (by decide +kernel) rfl
theorem lk_s_X9_unsee : Cond.selects RX9 yX9_unsee yX9_unsee ∈ fwW := fw_mem (i := 1171) (by decide +kernel) rfl
theorem lk_c_X9_unsee : Cond.code yX9_unsee cX9_unsee 2 ((some .int)) ∈ fwW := fw_mem (i := 1172) (by decide +kernel) rfl
theorem lk_m_L_110 : Cond.methodLink RL 110 yX9_tales ∈ fwW := fw_mem (i := 1173) (by decide +kernel) rfl
theorem lk_i_X9_tales : Cond.instanceMethod yX9_tales ∈ fwW := fw_mem (i := 1174) (by decide +kernel) rfl
theorem lk_s_X9_tales : Cond.selects RX9 yX9_tales yX9_tales ∈ fwW := fw_mem (i := 1175) (by decide +kernel) rfl
theorem lk_c_X9_tales : Cond.code yX9_tales cX9_tales 4 ((some .long)) ∈ fwW := fw_mem (i := 1176) (by decide +kernel) rfl
theorem lk_m_X9_228 : Cond.methodLink RX9 228 yX9_layTales ∈ fwW := fw_mem (i := 1177) (by decide +kernel) rfl
theorem lk_i_X9_layTales : Cond.instanceMethod yX9_layTales ∈ fwW := fw_mem (i := 1179) (by decide +kernel) rfl
theorem lk_c_X9_layTales : Cond.code yX9_layTales cX9_layTales 4 (none) ∈ fwW := fw_mem (i := 1180) (by decide +kernel) rfl
theorem lk_m_X9_218 : Cond.methodLink RX9 218 yX9_there ∈ fwW := fw_mem (i := 1181) (by decide +kernel) rfl
theorem lk_i_X9_there : Cond.instanceMethod yX9_there ∈ fwW := fw_mem (i := 1183) (by decide +kernel) rfl
theorem lk_c_X9_there : Cond.code yX9_there cX9_there 3 ((some .int)) ∈ fwW := fw_mem (i := 1184) (by decide +kernel) rfl
theorem lk_m_X9_221 : Cond.methodLink RX9 221 yX9_isTaken ∈ fwW := fw_mem (i := 1185) (by decide +kernel) rfl
theorem lk_i_X9_isTaken : Cond.instanceMethod yX9_isTaken ∈ fwW := fw_mem (i := 1187) (by decide +kernel) rfl
theorem lk_c_X9_isTaken : Cond.code yX9_isTaken cX9_isTaken 5 ((some .boolean)) ∈ fwW := fw_mem (i := 1188) (by decide +kernel) rfl
theorem lk_m_X9_224 : Cond.methodLink RX9 224 yX9_waysOf ∈ fwW := fw_mem (i := 1189) (by decide +kernel) rfl
theorem lk_i_X9_waysOf : Cond.instanceMethod yX9_waysOf ∈ fwW := fw_mem (i := 1191) (by decide +kernel) rfl
theorem lk_c_X9_waysOf : Cond.code yX9_waysOf cX9_waysOf 6 ((some .long)) ∈ fwW := fw_mem (i := 1192) (by decide +kernel) rfl
theorem lk_m_X9_212 : Cond.methodLink RX9 212 yX9_isSeen ∈ fwW := fw_mem (i := 1193) (by decide +kernel) rfl
theorem lk_i_X9_isSeen : Cond.instanceMethod yX9_isSeen ∈ fwW := fw_mem (i := 1195) (by decide +kernel) rfl
theorem lk_c_X9_isSeen : Cond.code yX9_isSeen cX9_isSeen 9 ((some .boolean)) ∈ fwW := fw_mem (i := 1196) (by decide +kernel) rfl
theorem lk_m_X9_215 : Cond.methodLink RX9 215 yX9_nextWays ∈ fwW := fw_mem (i := 1197) (by decide +kernel) rfl
theorem lk_i_X9_nextWays : Cond.instanceMethod yX9_nextWays ∈ fwW := fw_mem (i := 1199) (by decide +kernel) rfl
theorem lk_c_X9_nextWays : Cond.code yX9_nextWays cX9_nextWays 4 ((some .boolean)) ∈ fwW := fw_mem (i := 1200) (by decide +kernel) rfl
theorem lk_m_L_114 : Cond.methodLink RL 114 yX9_sets ∈ fwW := fw_mem (i := 1201) (by decide +kernel) rfl
theorem lk_i_X9_sets : Cond.instanceMethod yX9_sets ∈ fwW := fw_mem (i := 1202) (by decide +kernel) rfl
theorem lk_s_X9_sets : Cond.selects RX9 yX9_sets yX9_sets ∈ fwW := fw_mem (i := 1203) (by decide +kernel) rfl
theorem lk_c_X9_sets : Cond.code yX9_sets cX9_sets 1 ((some .int)) ∈ fwW := fw_mem (i := 1204) (by decide +kernel) rfl
theorem lk_m_X9_231 : Cond.methodLink RX9 231 yX9_setsWith ∈ fwW := fw_mem (i := 1205) (by decide +kernel) rfl
theorem lk_i_X9_setsWith : Cond.instanceMethod yX9_setsWith ∈ fwW := fw_mem (i := 1207) (by decide +kernel) rfl
theorem lk_c_X9_setsWith : Cond.code yX9_setsWith cX9_setsWith 4 ((some .int)) ∈ fwW := fw_mem (i := 1208) (by decide +kernel) rfl
theorem lk_m_L_118 : Cond.methodLink RL 118 yX9_setAt ∈ fwW := fw_mem (i := 1209) (by decide +kernel) rfl
theorem lk_i_X9_setAt : Cond.instanceMethod yX9_setAt ∈ fwW := fw_mem (i := 1210) (by decide +kernel) rfl
theorem lk_s_X9_setAt : Cond.selects RX9 yX9_setAt yX9_setAt ∈ fwW := fw_mem (i := 1211) (by decide +kernel) rfl
theorem lk_c_X9_setAt : Cond.code yX9_setAt cX9_setAt 4 ((some .int)) ∈ fwW := fw_mem (i := 1212) (by decide +kernel) rfl
theorem lk_m_L_122 : Cond.methodLink RL 122 yX9_sure ∈ fwW := fw_mem (i := 1213) (by decide +kernel) rfl
theorem lk_i_X9_sure : Cond.instanceMethod yX9_sure ∈ fwW := fw_mem (i := 1214) (by decide +kernel) rfl
theorem lk_s_X9_sure : Cond.selects RX9 yX9_sure yX9_sure ∈ fwW := fw_mem (i := 1215) (by decide +kernel) rfl
theorem lk_c_X9_sure : Cond.code yX9_sure cX9_sure 5 ((some .int)) ∈ fwW := fw_mem (i := 1216) (by decide +kernel) rfl
theorem lk_m_X9_234 : Cond.methodLink RX9 234 yX9_suspects ∈ fwW := fw_mem (i := 1217) (by decide +kernel) rfl
theorem lk_i_X9_suspects : Cond.instanceMethod yX9_suspects ∈ fwW := fw_mem (i := 1219) (by decide +kernel) rfl
theorem lk_c_X9_suspects : Cond.code yX9_suspects cX9_suspects 3 ((some .int)) ∈ fwW := fw_mem (i := 1220) (by decide +kernel) rfl
theorem lk_m_L_127 : Cond.methodLink RL 127 yX9_likely ∈ fwW := fw_mem (i := 1221) (by decide +kernel) rfl
theorem lk_i_X9_likely : Cond.instanceMethod yX9_likely ∈ fwW := fw_mem (i := 1222) (by decide +kernel) rfl
theorem lk_s_X9_likely : Cond.selects RX9 yX9_likely yX9_likely ∈ fwW := fw_mem (i := 1223) (by decide +kernel) rfl
theorem lk_c_X9_likely : Cond.code yX9_likely cX9_likely 8 ((some .long)) ∈ fwW := fw_mem (i := 1224) (by decide +kernel) rfl
theorem lk_l_X9_237 : Cond.constantLong RX9 237 (-1) ∈ fwW := fw_mem (i := 1225) (by decide +kernel) rfl
theorem lk_l_X9_239 : Cond.constantLong RX9 239 (-3) ∈ fwW := fw_mem (i := 1226) (by decide +kernel) rfl
theorem lk_m_X9_241 : Cond.methodLink RX9 241 yX9_part ∈ fwW := fw_mem (i := 1227) (by decide +kernel) rfl
theorem lk_t_X9_part : Cond.static yX9_part ∈ fwW := fw_mem (i := 1228) (by decide +kernel) rfl
theorem lk_c_X9_part : Cond.code yX9_part cX9_part 11 ((some .long)) ∈ fwW := fw_mem (i := 1229) (by decide +kernel) rfl
theorem lk_m_L_131 : Cond.methodLink RL 131 yX9_toTest ∈ fwW := fw_mem (i := 1230) (by decide +kernel) rfl
theorem lk_i_X9_toTest : Cond.instanceMethod yX9_toTest ∈ fwW := fw_mem (i := 1231) (by decide +kernel) rfl
theorem lk_s_X9_toTest : Cond.selects RX9 yX9_toTest yX9_toTest ∈ fwW := fw_mem (i := 1232) (by decide +kernel) rfl
theorem lk_c_X9_toTest : Cond.code yX9_toTest cX9_toTest 7 ((some .int)) ∈ fwW := fw_mem (i := 1233) (by decide +kernel) rfl
theorem lk_m_L_135 : Cond.methodLink RL 135 yX9_tests ∈ fwW := fw_mem (i := 1234) (by decide +kernel) rfl
theorem lk_i_X9_tests : Cond.instanceMethod yX9_tests ∈ fwW := fw_mem (i := 1235) (by decide +kernel) rfl
theorem lk_s_X9_tests : Cond.selects RX9 yX9_tests yX9_tests ∈ fwW := fw_mem (i := 1236) (by decide +kernel) rfl
theorem lk_c_X9_tests : Cond.code yX9_tests cX9_tests 6 ((some .int)) ∈ fwW := fw_mem (i := 1237) (by decide +kernel) rfl
theorem lk_m_X9_245 : Cond.methodLink RX9 245 yX9_areTwo ∈ fwW := fw_mem (i := 1238) (by decide +kernel) rfl
theorem lk_i_X9_areTwo : Cond.instanceMethod yX9_areTwo ∈ fwW := fw_mem (i := 1240) (by decide +kernel) rfl
theorem lk_c_X9_areTwo : Cond.code yX9_areTwo cX9_areTwo 7 ((some .boolean)) ∈ fwW := fw_mem (i := 1241) (by decide +kernel) rfl
theorem lk_m_L_139 : Cond.methodLink RL 139 yX9_vote ∈ fwW := fw_mem (i := 1242) (by decide +kernel) rfl
theorem lk_i_X9_vote : Cond.instanceMethod yX9_vote ∈ fwW := fw_mem (i := 1243) (by decide +kernel) rfl
theorem lk_s_X9_vote : Cond.selects RX9 yX9_vote yX9_vote ∈ fwW := fw_mem (i := 1244) (by decide +kernel) rfl
theorem lk_c_X9_vote : Cond.code yX9_vote cX9_vote 2 ((some .int)) ∈ fwW := fw_mem (i := 1245) (by decide +kernel) rfl
theorem lk_m_X9_248 : Cond.methodLink RX9 248 yX9_voteOf ∈ fwW := fw_mem (i := 1246) (by decide +kernel) rfl
theorem lk_i_X9_voteOf : Cond.instanceMethod yX9_voteOf ∈ fwW := fw_mem (i := 1248) (by decide +kernel) rfl
theorem lk_c_X9_voteOf : Cond.code yX9_voteOf cX9_voteOf 5 ((some .int)) ∈ fwW := fw_mem (i := 1249) (by decide +kernel) rfl
theorem lk_m_L_143 : Cond.methodLink RL 143 yX9_hanged ∈ fwW := fw_mem (i := 1250) (by decide +kernel) rfl
theorem lk_i_X9_hanged : Cond.instanceMethod yX9_hanged ∈ fwW := fw_mem (i := 1251) (by decide +kernel) rfl
theorem lk_s_X9_hanged : Cond.selects RX9 yX9_hanged yX9_hanged ∈ fwW := fw_mem (i := 1252) (by decide +kernel) rfl
theorem lk_c_X9_hanged : Cond.code yX9_hanged cX9_hanged 3 ((some .int)) ∈ fwW := fw_mem (i := 1253) (by decide +kernel) rfl
theorem lk_m_L_147 : Cond.methodLink RL 147 yX9_safe ∈ fwW := fw_mem (i := 1254) (by decide +kernel) rfl
theorem lk_i_X9_safe : Cond.instanceMethod yX9_safe ∈ fwW := fw_mem (i := 1255) (by decide +kernel) rfl
theorem lk_s_X9_safe : Cond.selects RX9 yX9_safe yX9_safe ∈ fwW := fw_mem (i := 1256) (by decide +kernel) rfl
theorem lk_c_X9_safe : Cond.code yX9_safe cX9_safe 4 ((some .int)) ∈ fwW := fw_mem (i := 1257) (by decide +kernel) rfl
theorem lk_m_L_151 : Cond.methodLink RL 151 yX9_locked ∈ fwW := fw_mem (i := 1258) (by decide +kernel) rfl
theorem lk_i_X9_locked : Cond.instanceMethod yX9_locked ∈ fwW := fw_mem (i := 1259) (by decide +kernel) rfl
theorem lk_s_X9_locked : Cond.selects RX9 yX9_locked yX9_locked ∈ fwW := fw_mem (i := 1260) (by decide +kernel) rfl
theorem lk_c_X9_locked : Cond.code yX9_locked cX9_locked 6 ((some .int)) ∈ fwW := fw_mem (i := 1261) (by decide +kernel) rfl
theorem lk_m_X9_251 : Cond.methodLink RX9 251 yX9_bits ∈ fwW := fw_mem (i := 1262) (by decide +kernel) rfl
theorem lk_t_X9_bits : Cond.static yX9_bits ∈ fwW := fw_mem (i := 1263) (by decide +kernel) rfl
theorem lk_c_X9_bits : Cond.code yX9_bits cX9_bits 3 ((some .int)) ∈ fwW := fw_mem (i := 1264) (by decide +kernel) rfl
theorem lk_m_L_156 : Cond.methodLink RL 156 yX9_danger ∈ fwW := fw_mem (i := 1265) (by decide +kernel) rfl
theorem lk_i_X9_danger : Cond.instanceMethod yX9_danger ∈ fwW := fw_mem (i := 1266) (by decide +kernel) rfl
theorem lk_s_X9_danger : Cond.selects RX9 yX9_danger yX9_danger ∈ fwW := fw_mem (i := 1267) (by decide +kernel) rfl
theorem lk_c_X9_danger : Cond.code yX9_danger cX9_danger 12 ((some .long)) ∈ fwW := fw_mem (i := 1268) (by decide +kernel) rfl
theorem lk_l_X9_257 : Cond.constantLong RX9 257 (-2) ∈ fwW := fw_mem (i := 1269) (by decide +kernel) rfl
theorem lk_m_X9_259 : Cond.methodLink RX9 259 yX9_copies ∈ fwW := fw_mem (i := 1270) (by decide +kernel) rfl
theorem lk_t_X9_copies : Cond.static yX9_copies ∈ fwW := fw_mem (i := 1271) (by decide +kernel) rfl
theorem lk_c_X9_copies : Cond.code yX9_copies cX9_copies 3 (none) ∈ fwW := fw_mem (i := 1272) (by decide +kernel) rfl
theorem lk_m_X9_263 : Cond.methodLink RX9 263 yX9_waysNow ∈ fwW := fw_mem (i := 1273) (by decide +kernel) rfl
theorem lk_i_X9_waysNow : Cond.instanceMethod yX9_waysNow ∈ fwW := fw_mem (i := 1275) (by decide +kernel) rfl
theorem lk_c_X9_waysNow : Cond.code yX9_waysNow cX9_waysNow 4 ((some .int)) ∈ fwW := fw_mem (i := 1276) (by decide +kernel) rfl
theorem lk_m_X9_266 : Cond.methodLink RX9 266 yX9_goesBy ∈ fwW := fw_mem (i := 1277) (by decide +kernel) rfl
theorem lk_i_X9_goesBy : Cond.instanceMethod yX9_goesBy ∈ fwW := fw_mem (i := 1279) (by decide +kernel) rfl
theorem lk_c_X9_goesBy : Cond.code yX9_goesBy cX9_goesBy 9 ((some .long)) ∈ fwW := fw_mem (i := 1280) (by decide +kernel) rfl
theorem lk_m_X9_254 : Cond.methodLink RX9 254 yX9_placeOf ∈ fwW := fw_mem (i := 1281) (by decide +kernel) rfl
theorem lk_t_X9_placeOf : Cond.static yX9_placeOf ∈ fwW := fw_mem (i := 1282) (by decide +kernel) rfl
theorem lk_c_X9_placeOf : Cond.code yX9_placeOf cX9_placeOf 4 ((some .int)) ∈ fwW := fw_mem (i := 1283) (by decide +kernel) rfl
theorem lk_m_X9_270 : Cond.methodLink RX9 270 yX9_secondOf ∈ fwW := fw_mem (i := 1284) (by decide +kernel) rfl
theorem lk_i_X9_secondOf : Cond.instanceMethod yX9_secondOf ∈ fwW := fw_mem (i := 1286) (by decide +kernel) rfl
theorem lk_c_X9_secondOf : Cond.code yX9_secondOf cX9_secondOf 8 ((some .long)) ∈ fwW := fw_mem (i := 1287) (by decide +kernel) rfl
theorem lk_m_L_161 : Cond.methodLink RL 161 yX9_seed ∈ fwW := fw_mem (i := 1288) (by decide +kernel) rfl
theorem lk_i_X9_seed : Cond.instanceMethod yX9_seed ∈ fwW := fw_mem (i := 1289) (by decide +kernel) rfl
theorem lk_s_X9_seed : Cond.selects RX9 yX9_seed yX9_seed ∈ fwW := fw_mem (i := 1290) (by decide +kernel) rfl
theorem lk_c_X9_seed : Cond.code yX9_seed cX9_seed 5 ((some .long)) ∈ fwW := fw_mem (i := 1291) (by decide +kernel) rfl
theorem lk_m_L_165 : Cond.methodLink RL 165 yX9_years ∈ fwW := fw_mem (i := 1292) (by decide +kernel) rfl
theorem lk_i_X9_years : Cond.instanceMethod yX9_years ∈ fwW := fw_mem (i := 1293) (by decide +kernel) rfl
theorem lk_s_X9_years : Cond.selects RX9 yX9_years yX9_years ∈ fwW := fw_mem (i := 1294) (by decide +kernel) rfl
theorem lk_c_X9_years : Cond.code yX9_years cX9_years 6 ((some .int)) ∈ fwW := fw_mem (i := 1295) (by decide +kernel) rfl
theorem lk_l_X9_277 : Cond.constantLong RX9 277 (30) ∈ fwW := fw_mem (i := 1296) (by decide +kernel) rfl
theorem lk_l_X9_279 : Cond.constantLong RX9 279 (6364136223846793005) ∈ fwW := fw_mem (i := 1297) (by decide +kernel) rfl
theorem lk_l_X9_281 : Cond.constantLong RX9 281 (1442695040888963407) ∈ fwW := fw_mem (i := 1298) (by decide +kernel) rfl
theorem lk_m_X9_283 : Cond.methodLink RX9 283 yX9_wolves ∈ fwW := fw_mem (i := 1299) (by decide +kernel) rfl
theorem lk_i_X9_wolves : Cond.instanceMethod yX9_wolves ∈ fwW := fw_mem (i := 1301) (by decide +kernel) rfl
theorem lk_c_X9_wolves : Cond.code yX9_wolves cX9_wolves 3 ((some .int)) ∈ fwW := fw_mem (i := 1302) (by decide +kernel) rfl
theorem lk_m_L_169 : Cond.methodLink RL 169 yX9_keep ∈ fwW := fw_mem (i := 1303) (by decide +kernel) rfl
theorem lk_i_X9_keep : Cond.instanceMethod yX9_keep ∈ fwW := fw_mem (i := 1304) (by decide +kernel) rfl
theorem lk_s_X9_keep : Cond.selects RX9 yX9_keep yX9_keep ∈ fwW := fw_mem (i := 1305) (by decide +kernel) rfl
theorem lk_c_X9_keep : Cond.code yX9_keep cX9_keep 3 ((some .int)) ∈ fwW := fw_mem (i := 1306) (by decide +kernel) rfl
theorem lk_m_L_173 : Cond.methodLink RL 173 yX9_again ∈ fwW := fw_mem (i := 1307) (by decide +kernel) rfl
theorem lk_i_X9_again : Cond.instanceMethod yX9_again ∈ fwW := fw_mem (i := 1308) (by decide +kernel) rfl
theorem lk_s_X9_again : Cond.selects RX9 yX9_again yX9_again ∈ fwW := fw_mem (i := 1309) (by decide +kernel) rfl
theorem lk_c_X9_again : Cond.code yX9_again cX9_again 3 ((some .int)) ∈ fwW := fw_mem (i := 1310) (by decide +kernel) rfl
theorem lk_m_L_177 : Cond.methodLink RL 177 yX9_count ∈ fwW := fw_mem (i := 1311) (by decide +kernel) rfl
theorem lk_i_X9_count : Cond.instanceMethod yX9_count ∈ fwW := fw_mem (i := 1312) (by decide +kernel) rfl
theorem lk_s_X9_count : Cond.selects RX9 yX9_count yX9_count ∈ fwW := fw_mem (i := 1313) (by decide +kernel) rfl
theorem lk_c_X9_count : Cond.code yX9_count cX9_count 4 ((some .int)) ∈ fwW := fw_mem (i := 1314) (by decide +kernel) rfl
theorem lk_l_L_13 : Cond.constantLong RL 13 (4294967295) ∈ fwW := fw_mem (i := 1315) (by decide +kernel) rfl

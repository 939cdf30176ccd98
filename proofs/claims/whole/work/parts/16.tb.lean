def q_lookK : List (Nat × List Nat) → Nat → Option (List Nat)
  | [], _ => none
  | (k, o) :: l, pc => cond (Nat.beq k pc) (some o) (q_lookK l pc)
def q_kp_0 (mid pc : Nat) : Option (List Nat) := cond (Nat.ble mid 7) (cond (Nat.ble mid 3) (cond (Nat.ble mid 1) (cond (Nat.ble mid 0) (none) (none)) (cond (Nat.ble mid 2) (none) (none))) (cond (Nat.ble mid 5) (cond (Nat.ble mid 4) (none) (none)) (cond (Nat.ble mid 6) (none) (q_lookK [(2, [0, 1]), (12, [0, 1, 2]), (50, [0, 1, 2, 3, 4])] pc)))) (cond (Nat.ble mid 11) (cond (Nat.ble mid 9) (cond (Nat.ble mid 8) (none) (none)) (cond (Nat.ble mid 10) (none) (none))) (cond (Nat.ble mid 13) (cond (Nat.ble mid 12) (none) (none)) (cond (Nat.ble mid 14) (none) (q_lookK [(92, [0, 1, 2, 3, 4, 5, 6, 7])] pc))))
def q_tb_0 (sx : QX) (mid pc : Nat) : Option QO := cond (Nat.ble mid 7) (cond (Nat.ble mid 3) (cond (Nat.ble mid 1) (cond (Nat.ble mid 0) (t_X0_clear pc) (t_X0_isWhole pc)) (cond (Nat.ble mid 2) (t_X0_addBlock pc) (t_X0_addWord pc))) (cond (Nat.ble mid 5) (cond (Nat.ble mid 4) (t_X0_addSpeaker pc) (t_X0_setFrost pc)) (cond (Nat.ble mid 6) (t_X0_addVow pc) (t_X0_reckon pc)))) (cond (Nat.ble mid 11) (cond (Nat.ble mid 9) (cond (Nat.ble mid 8) (t_X0_plainWorth pc) (t_X0_spokenWorth pc)) (cond (Nat.ble mid 10) (t_X0_coldFor pc) (t_X0_vowPlace pc))) (cond (Nat.ble mid 13) (cond (Nat.ble mid 12) (t_X0_wordPlace pc) (t_X0_sayingPlace pc)) (cond (Nat.ble mid 14) (t_X1_seek pc) (t_X1_extend pc))))
def q_kp_1 (mid pc : Nat) : Option (List Nat) := cond (Nat.ble mid 23) (cond (Nat.ble mid 19) (cond (Nat.ble mid 17) (cond (Nat.ble mid 16) (none) (none)) (cond (Nat.ble mid 18) (none) (none))) (cond (Nat.ble mid 21) (cond (Nat.ble mid 20) (none) (none)) (cond (Nat.ble mid 22) (q_lookK [(4, [0, 1, 2, 3])] pc) (q_lookK [(4, [0, 1, 2])] pc)))) (cond (Nat.ble mid 27) (cond (Nat.ble mid 25) (cond (Nat.ble mid 24) (none) (none)) (cond (Nat.ble mid 26) (none) (none))) (cond (Nat.ble mid 29) (cond (Nat.ble mid 28) (none) (q_lookK [(32, [0, 2, 3, 4, 5])] pc)) (cond (Nat.ble mid 30) (none) (none))))
def q_tb_1 (sx : QX) (mid pc : Nat) : Option QO := cond (Nat.ble mid 23) (cond (Nat.ble mid 19) (cond (Nat.ble mid 17) (cond (Nat.ble mid 16) (t_X2_clear pc) (t_X2_push pc)) (cond (Nat.ble mid 18) (t_X2_pop pc) (t_X3_begin pc))) (cond (Nat.ble mid 21) (cond (Nat.ble mid 20) (t_X3_copyFrom pc) (t_X3_isIn pc)) (cond (Nat.ble mid 22) (t_X3_tally pc) (t_X3_hoursLeft pc)))) (cond (Nat.ble mid 27) (cond (Nat.ble mid 25) (cond (Nat.ble mid 24) (t_X3_lackOf pc) (t_X3_timesHeard pc)) (cond (Nat.ble mid 26) (t_X3_worthOf pc) (t_X3_vowOf pc))) (cond (Nat.ble mid 29) (cond (Nat.ble mid 28) (t_X3_canSay pc) (t_X3_speak pc)) (cond (Nat.ble mid 30) (t_X3_hear pc) (t_X3_hearsThrough pc))))
def q_kp_2 (mid pc : Nat) : Option (List Nat) := cond (Nat.ble mid 39) (cond (Nat.ble mid 35) (cond (Nat.ble mid 33) (cond (Nat.ble mid 32) (none) (none)) (cond (Nat.ble mid 34) (none) (q_lookK [(19, [0, 1, 2, 3])] pc))) (cond (Nat.ble mid 37) (cond (Nat.ble mid 36) (none) (q_lookK [(2, [0, 1])] pc)) (cond (Nat.ble mid 38) (q_lookK [(8, [0, 1, 2, 3, 4]), (38, [0, 1, 2, 3, 4, 5])] pc) (q_lookK [(5, [0, 1, 2])] pc)))) (cond (Nat.ble mid 43) (cond (Nat.ble mid 41) (cond (Nat.ble mid 40) (q_lookK [(9, [0, 1, 2, 3])] pc) (q_lookK [(9, [0, 1, 2, 3, 4, 5])] pc)) (cond (Nat.ble mid 42) (q_lookK [(11, [0, 1, 2, 3, 4, 5]), (41, [0, 1, 2, 3, 4, 5, 6])] pc) (q_lookK [(7, [0, 1, 2, 3, 4])] pc))) (cond (Nat.ble mid 45) (cond (Nat.ble mid 44) (q_lookK [(2, [0, 1, 2])] pc) (q_lookK [(2, [0, 1, 2, 3])] pc)) (cond (Nat.ble mid 46) (q_lookK [(15, [4, 5, 6, 7])] pc) (q_lookK [(2, [0, 1, 2])] pc))))
def q_tb_2 (sx : QX) (mid pc : Nat) : Option QO := cond (Nat.ble mid 39) (cond (Nat.ble mid 35) (cond (Nat.ble mid 33) (cond (Nat.ble mid 32) (t_X3_soften pc) (t_X3_vow pc)) (cond (Nat.ble mid 34) (t_X3_carryOff pc) (t_X3_wouldCrack pc))) (cond (Nat.ble mid 37) (cond (Nat.ble mid 36) (t_X3_belies pc) (t_X3_night pc)) (cond (Nat.ble mid 38) (t_X3_dearest pc) (t_X3_askAll pc)))) (cond (Nat.ble mid 43) (cond (Nat.ble mid 41) (cond (Nat.ble mid 40) (t_X3_askOne pc) (t_X3_dearestWord pc)) (cond (Nat.ble mid 42) (t_X3_mildest pc) (t_X3_harmOf pc))) (cond (Nat.ble mid 45) (cond (Nat.ble mid 44) (t_X3_explains pc) (t_X3_explainsOne pc)) (cond (Nat.ble mid 46) (t_X3_softerBy pc) (t_X4_shortest pc))))
def q_kp_3 (mid pc : Nat) : Option (List Nat) := cond (Nat.ble mid 55) (cond (Nat.ble mid 51) (cond (Nat.ble mid 49) (cond (Nat.ble mid 48) (q_lookK [(82, [0, 1, 2, 3, 4, 7]), (114, [0, 1, 2, 3, 4, 7, 8])] pc) (none)) (cond (Nat.ble mid 50) (none) (q_lookK [(11, [0, 1, 2])] pc))) (cond (Nat.ble mid 53) (cond (Nat.ble mid 52) (q_lookK [(116, []), (117, []), (136, []), (137, []), (158, []), (159, []), (178, []), (179, []), (208, []), (209, [])] pc) (q_lookK [(2, [0, 1])] pc)) (cond (Nat.ble mid 54) (none) (none)))) (cond (Nat.ble mid 59) (cond (Nat.ble mid 57) (cond (Nat.ble mid 56) (none) (none)) (cond (Nat.ble mid 58) (none) (none))) (cond (Nat.ble mid 61) (cond (Nat.ble mid 60) (none) (none)) (cond (Nat.ble mid 62) (none) (none))))
def q_tb_3 (sx : QX) (mid pc : Nat) : Option QO := cond (Nat.ble mid 55) (cond (Nat.ble mid 51) (cond (Nat.ble mid 49) (cond (Nat.ble mid 48) (t_X4_extend pc) (t_X4_shift pc)) (cond (Nat.ble mid 50) (t_X5_append pc) (t_X5_readInto pc))) (cond (Nat.ble mid 53) (cond (Nat.ble mid 52) (t_X5_readItem pc) (t_X5_readNumbers pc)) (cond (Nat.ble mid 54) (t_X5_readNumber pc) (t_X5_letterAt pc)))) (cond (Nat.ble mid 59) (cond (Nat.ble mid 57) (cond (Nat.ble mid 56) (t_X6_write pc) (t_X6_wipe pc)) (cond (Nat.ble mid 58) (t_X6_fault pc) (t_X6_lay pc))) (cond (Nat.ble mid 61) (cond (Nat.ble mid 60) (t_X6_block pc) (t_X6_word pc)) (cond (Nat.ble mid 62) (t_X6_speaker pc) (t_X6_heard pc))))
def q_kp_4 (mid pc : Nat) : Option (List Nat) := cond (Nat.ble mid 71) (cond (Nat.ble mid 67) (cond (Nat.ble mid 65) (cond (Nat.ble mid 64) (none) (none)) (cond (Nat.ble mid 66) (none) (none))) (cond (Nat.ble mid 69) (cond (Nat.ble mid 68) (none) (q_lookK [(26, [0, 1, 2])] pc)) (cond (Nat.ble mid 70) (none) (none)))) (cond (Nat.ble mid 75) (cond (Nat.ble mid 73) (cond (Nat.ble mid 72) (none) (none)) (cond (Nat.ble mid 74) (q_lookK [(46, [0, 1, 2, 3])] pc) (none))) (cond (Nat.ble mid 77) (cond (Nat.ble mid 76) (q_lookK [(41, [0, 1, 2, 3])] pc) (none)) (cond (Nat.ble mid 78) (q_lookK [(5, [0, 1, 2])] pc) (q_lookK [(52, [0, 1, 2, 3, 4, 5, 6]), (67, [0, 1, 2, 3, 4, 5, 6, 7])] pc))))
def q_tb_4 (sx : QX) (mid pc : Nat) : Option QO := cond (Nat.ble mid 71) (cond (Nat.ble mid 67) (cond (Nat.ble mid 65) (cond (Nat.ble mid 64) (t_X6_promised pc) (t_X6_worth pc)) (cond (Nat.ble mid 66) (t_X6_say pc) (t_X6_promise pc))) (cond (Nat.ble mid 69) (cond (Nat.ble mid 68) (t_X6_take pc) (t_X6_pass pc)) (cond (Nat.ble mid 70) (t_X6_undo pc) (t_X6_least pc)))) (cond (Nat.ble mid 75) (cond (Nat.ble mid 73) (cond (Nat.ble mid 72) (t_X6_best pc) (t_X6_order pc)) (cond (Nat.ble mid 74) (t_X6_days pc) (t_X6_frost pc))) (cond (Nat.ble mid 77) (cond (Nat.ble mid 76) (t_X6_uses pc) (t_X6_harm pc)) (cond (Nat.ble mid 78) (t_X6_liars pc) (t_X6_said pc))))
def q_kp_5 (mid pc : Nat) : Option (List Nat) := cond (Nat.ble mid 87) (cond (Nat.ble mid 83) (cond (Nat.ble mid 81) (cond (Nat.ble mid 80) (q_lookK [(65, [0, 1, 2, 3, 4, 5, 6, 7, 8]), (123, [4, 6, 7, 8, 9])] pc) (q_lookK [(45, [0, 1, 2, 3, 4])] pc)) (cond (Nat.ble mid 82) (none) (none))) (cond (Nat.ble mid 85) (cond (Nat.ble mid 84) (none) (none)) (cond (Nat.ble mid 86) (none) (none)))) (cond (Nat.ble mid 91) (cond (Nat.ble mid 89) (cond (Nat.ble mid 88) (none) (none)) (cond (Nat.ble mid 90) (none) (none))) (cond (Nat.ble mid 93) (cond (Nat.ble mid 92) (none) (q_lookK [(5, [0, 1, 2, 3, 4])] pc)) (cond (Nat.ble mid 94) (q_lookK [(2, [0, 1, 2])] pc) (none))))
def q_tb_5 (sx : QX) (mid pc : Nat) : Option QO := cond (Nat.ble mid 87) (cond (Nat.ble mid 83) (cond (Nat.ble mid 81) (cond (Nat.ble mid 80) (t_X6_deaf pc) (t_X6_year pc)) (cond (Nat.ble mid 82) (t_X6_keep pc) (t_X6_back pc))) (cond (Nat.ble mid 85) (cond (Nat.ble mid 84) (t_X6_count pc) (t_X6_layOut pc)) (cond (Nat.ble mid 86) (t_X6_isBlock pc) (t_X6_isWord pc)))) (cond (Nat.ble mid 91) (cond (Nat.ble mid 89) (cond (Nat.ble mid 88) (t_X6_isSpeaker pc) (t_X6_isSaying pc)) (cond (Nat.ble mid 90) (t_X6_isUse pc) (t_X6_isPart pc))) (cond (Nat.ble mid 93) (cond (Nat.ble mid 92) (t_X6_saying pc) (t_X6_weight pc)) (cond (Nat.ble mid 94) (t_X6_commonMeasure pc) (t_X6_drawOf pc))))
def q_kp_6 (mid pc : Nat) : Option (List Nat) := cond (Nat.ble mid 103) (cond (Nat.ble mid 99) (cond (Nat.ble mid 97) (cond (Nat.ble mid 96) (none) (none)) (cond (Nat.ble mid 98) (none) (q_lookK [(2, [0, 1, 2])] pc))) (cond (Nat.ble mid 101) (cond (Nat.ble mid 100) (q_lookK [(2, [0, 1, 2])] pc) (none)) (cond (Nat.ble mid 102) (none) (none)))) (cond (Nat.ble mid 107) (cond (Nat.ble mid 105) (cond (Nat.ble mid 104) (q_lookK [(4, [0, 1, 2])] pc) (q_lookK [(2, [0, 1, 2, 3])] pc)) (cond (Nat.ble mid 106) (none) (none))) (cond (Nat.ble mid 109) (cond (Nat.ble mid 108) (none) (q_lookK [(22, [0, 1])] pc)) (cond (Nat.ble mid 110) (none) (none))))
def q_tb_6 (sx : QX) (mid pc : Nat) : Option QO := cond (Nat.ble mid 103) (cond (Nat.ble mid 99) (cond (Nat.ble mid 97) (cond (Nat.ble mid 96) (t_X6_live pc) (t_X6_at pc)) (cond (Nat.ble mid 98) (t_X6_put pc) (t_X6_fill pc))) (cond (Nat.ble mid 101) (cond (Nat.ble mid 100) (t_X6_copy pc) (t_X6_pick pc)) (cond (Nat.ble mid 102) (t_X7_in pc) (t_X7_has pc)))) (cond (Nat.ble mid 107) (cond (Nat.ble mid 105) (cond (Nat.ble mid 104) (t_X7_ones pc) (t_X7_copy pc)) (cond (Nat.ble mid 106) (t_X7_isBlock pc) (t_X7_isWord pc))) (cond (Nat.ble mid 109) (cond (Nat.ble mid 108) (t_X7_isSpeaker pc) (t_X7_starts pc)) (cond (Nat.ble mid 110) (t_X7_addsBlock pc) (t_X7_addsWord pc))))
def q_kp_7 (mid pc : Nat) : Option (List Nat) := cond (Nat.ble mid 119) (cond (Nat.ble mid 115) (cond (Nat.ble mid 113) (cond (Nat.ble mid 112) (none) (q_lookK [(34, [0, 1]), (55, [0, 1]), (80, [0, 1]), (126, [0, 1]), (154, [0, 1]), (215, [0, 1])] pc)) (cond (Nat.ble mid 114) (none) (none))) (cond (Nat.ble mid 117) (cond (Nat.ble mid 116) (none) (q_lookK [(11, [0, 1, 2, 3, 4])] pc)) (cond (Nat.ble mid 118) (none) (none)))) (cond (Nat.ble mid 123) (cond (Nat.ble mid 121) (cond (Nat.ble mid 120) (none) (none)) (cond (Nat.ble mid 122) (none) (none))) (cond (Nat.ble mid 125) (cond (Nat.ble mid 124) (q_lookK [(9, [0])] pc) (none)) (cond (Nat.ble mid 126) (none) (none))))
def q_tb_7 (sx : QX) (mid pc : Nat) : Option QO := cond (Nat.ble mid 119) (cond (Nat.ble mid 115) (cond (Nat.ble mid 113) (cond (Nat.ble mid 112) (t_X7_addsSpeaker pc) (t_X7_begins pc)) (cond (Nat.ble mid 114) (t_X7_write pc) (t_X7_wipe pc))) (cond (Nat.ble mid 117) (cond (Nat.ble mid 116) (t_X7_letterAt pc) (t_X7_takesNumber pc)) (cond (Nat.ble mid 118) (t_X7_takesBlock pc) (t_X7_takesWord pc)))) (cond (Nat.ble mid 123) (cond (Nat.ble mid 121) (cond (Nat.ble mid 120) (t_X7_takesSpeaker pc) (t_X7_takesFrost pc)) (cond (Nat.ble mid 122) (t_X7_takesPromise pc) (t_X7_takesItem pc))) (cond (Nat.ble mid 125) (cond (Nat.ble mid 124) (t_X7_faultOf pc) (t_X7_fault pc)) (cond (Nat.ble mid 126) (t_X7_lay pc) (t_X7_block pc))))
def q_kp_8 (mid pc : Nat) : Option (List Nat) := cond (Nat.ble mid 135) (cond (Nat.ble mid 131) (cond (Nat.ble mid 129) (cond (Nat.ble mid 128) (none) (none)) (cond (Nat.ble mid 130) (none) (none))) (cond (Nat.ble mid 133) (cond (Nat.ble mid 132) (none) (none)) (cond (Nat.ble mid 134) (none) (none)))) (cond (Nat.ble mid 139) (cond (Nat.ble mid 137) (cond (Nat.ble mid 136) (none) (none)) (cond (Nat.ble mid 138) (none) (none))) (cond (Nat.ble mid 141) (cond (Nat.ble mid 140) (none) (q_lookK [(40, [0, 1, 3, 4, 5])] pc)) (cond (Nat.ble mid 142) (q_lookK [(2, [0, 1, 2]), (69, [0, 1, 2])] pc) (none))))
def q_tb_8 (sx : QX) (mid pc : Nat) : Option QO := cond (Nat.ble mid 135) (cond (Nat.ble mid 131) (cond (Nat.ble mid 129) (cond (Nat.ble mid 128) (t_X7_word pc) (t_X7_speaker pc)) (cond (Nat.ble mid 130) (t_X7_heard pc) (t_X7_promised pc))) (cond (Nat.ble mid 133) (cond (Nat.ble mid 132) (t_X7_byKind pc) (t_X7_less pc)) (cond (Nat.ble mid 134) (t_X7_heardOf pc) (t_X7_spoken pc)))) (cond (Nat.ble mid 139) (cond (Nat.ble mid 137) (cond (Nat.ble mid 136) (t_X7_worthOf pc) (t_X7_worth pc)) (cond (Nat.ble mid 138) (t_X7_inBed pc) (t_X7_hears pc))) (cond (Nat.ble mid 141) (cond (Nat.ble mid 140) (t_X7_comes pc) (t_X7_says pc)) (cond (Nat.ble mid 142) (t_X7_passes pc) (t_X7_canSay pc))))
def q_kp_9 (mid pc : Nat) : Option (List Nat) := cond (Nat.ble mid 151) (cond (Nat.ble mid 147) (cond (Nat.ble mid 145) (cond (Nat.ble mid 144) (q_lookK [(6, [0, 1, 2, 3, 4, 5])] pc) (none)) (cond (Nat.ble mid 146) (q_lookK [(11, [0, 1])] pc) (none))) (cond (Nat.ble mid 149) (cond (Nat.ble mid 148) (none) (none)) (cond (Nat.ble mid 150) (q_lookK [(20, [0, 1, 2])] pc) (none)))) (cond (Nat.ble mid 155) (cond (Nat.ble mid 153) (cond (Nat.ble mid 152) (none) (q_lookK [(2, [0, 1, 2, 3]), (23, [0, 1, 2, 3]), (64, [0, 1, 2, 3]), (155, [0, 1, 2, 3, 4])] pc)) (cond (Nat.ble mid 154) (q_lookK [(29, [0, 1, 2, 3])] pc) (q_lookK [(9, [0, 1, 2, 3, 4, 5]), (21, [0, 1, 2, 3, 4, 5, 6])] pc))) (cond (Nat.ble mid 157) (cond (Nat.ble mid 156) (none) (q_lookK [(7, [0, 1, 2, 3])] pc)) (cond (Nat.ble mid 158) (q_lookK [(4, [0, 1, 2])] pc) (q_lookK [(30, [0, 1, 2, 3, 4]), (52, [0, 1, 2, 3, 4, 5, 6, 7]), (91, [0, 1, 2, 3, 4, 5, 7, 8]), (148, [0, 1, 2, 3, 4, 8]), (191, [0, 1, 2, 3, 4, 5, 6, 7])] pc))))
def q_tb_9 (sx : QX) (mid pc : Nat) : Option QO := cond (Nat.ble mid 151) (cond (Nat.ble mid 147) (cond (Nat.ble mid 145) (cond (Nat.ble mid 144) (t_X7_isElse pc) (t_X7_takesFor pc)) (cond (Nat.ble mid 146) (t_X7_minds pc) (t_X7_say pc))) (cond (Nat.ble mid 149) (cond (Nat.ble mid 148) (t_X7_promise pc) (t_X7_take pc)) (cond (Nat.ble mid 150) (t_X7_pass pc) (t_X7_undo pc)))) (cond (Nat.ble mid 155) (cond (Nat.ble mid 153) (cond (Nat.ble mid 152) (t_X7_tries pc) (t_X7_bringsOut pc)) (cond (Nat.ble mid 154) (t_X7_least pc) (t_X7_bestOf pc))) (cond (Nat.ble mid 157) (cond (Nat.ble mid 156) (t_X7_best pc) (t_X7_asks pc)) (cond (Nat.ble mid 158) (t_X7_bedOf pc) (t_X7_bestOrder pc))))
def q_kp_10 (mid pc : Nat) : Option (List Nat) := cond (Nat.ble mid 167) (cond (Nat.ble mid 163) (cond (Nat.ble mid 161) (cond (Nat.ble mid 160) (none) (q_lookK [(9, [0, 1, 2, 3, 4, 5])] pc)) (cond (Nat.ble mid 162) (q_lookK [(36, [0, 1, 2, 3]), (50, [0, 1, 2, 3, 4])] pc) (q_lookK [(28, [0, 1, 2])] pc))) (cond (Nat.ble mid 165) (cond (Nat.ble mid 164) (q_lookK [(30, [0, 1, 2, 3])] pc) (q_lookK [(5, [0, 1, 2, 3, 4])] pc)) (cond (Nat.ble mid 166) (q_lookK [(34, [0, 1, 2, 3, 4, 5]), (46, [0, 1, 2, 3, 4, 5, 6]), (113, [0, 1, 2, 3, 4, 5, 6, 7, 8]), (117, [0, 1, 2, 3, 4, 5, 6, 7, 8]), (118, [0, 1, 2, 3, 4, 5, 6, 7, 8]), (137, [0, 1, 3, 4, 5, 6, 7, 8, 9]), (149, [0, 1, 2, 4, 5, 6, 7, 9]), (162, [0, 1, 2, 3, 5, 6]), (170, [0, 1, 2, 3, 4, 5])] pc) (q_lookK [(5, [0, 1, 2, 3, 4])] pc)))) (cond (Nat.ble mid 171) (cond (Nat.ble mid 169) (cond (Nat.ble mid 168) (q_lookK [(5, [0, 1, 2]), (41, [0, 1, 2, 3, 4])] pc) (q_lookK [(54, [0, 1, 2, 3, 4, 5, 6]), (66, [0, 1, 2, 3, 4, 5, 6, 7])] pc)) (cond (Nat.ble mid 170) (q_lookK [(84, [0, 1, 2, 3, 4, 5, 6, 7, 8, 9]), (107, [0, 1, 2, 3, 4, 5, 6, 7, 8, 9]), (132, [0, 1, 2, 3, 4, 5, 6, 7, 8, 9, 10, 11, 12]), (245, [6, 7, 8, 9, 10])] pc) (q_lookK [(5, [0, 1, 2, 3, 4])] pc))) (cond (Nat.ble mid 173) (cond (Nat.ble mid 172) (none) (q_lookK [(43, [0, 1, 2, 3, 4])] pc)) (cond (Nat.ble mid 174) (none) (none))))
def q_tb_10 (sx : QX) (mid pc : Nat) : Option QO := cond (Nat.ble mid 167) (cond (Nat.ble mid 163) (cond (Nat.ble mid 161) (cond (Nat.ble mid 160) (t_X7_order pc) (t_X7_bestWord pc)) (cond (Nat.ble mid 162) (t_X7_days pc) (t_X7_frost pc))) (cond (Nat.ble mid 165) (cond (Nat.ble mid 164) (t_X7_uses pc) (t_X7_harmOf pc)) (cond (Nat.ble mid 166) (t_X7_harm pc) (t_X7_lies pc)))) (cond (Nat.ble mid 171) (cond (Nat.ble mid 169) (cond (Nat.ble mid 168) (t_X7_liars pc) (t_X7_said pc)) (cond (Nat.ble mid 170) (t_X7_deaf pc) (t_X7_manyHow pc))) (cond (Nat.ble mid 173) (cond (Nat.ble mid 172) (t_X7_doesBy pc) (t_X7_year pc)) (cond (Nat.ble mid 174) (t_X7_keep pc) (t_X7_back pc))))
def q_kp_11 (mid pc : Nat) : Option (List Nat) := cond (Nat.ble mid 176) (none) (cond (Nat.ble mid 177) (none) (q_lookK [(18, [0, 1, 2, 3]), (983, [0, 1, 2, 3])] pc))
def q_tb_11 (sx : QX) (mid pc : Nat) : Option QO := cond (Nat.ble mid 176) (t_X7_count pc) (cond (Nat.ble mid 177) (t_J6_bitCount_0f7a4 pc) (t_L_law sx pc))
def q_kpt (mid pc : Nat) : Option (List Nat) := cond (Nat.ble mid 95) (cond (Nat.ble mid 47) (cond (Nat.ble mid 15) (q_kp_0 mid pc) (cond (Nat.ble mid 31) (q_kp_1 mid pc) (q_kp_2 mid pc))) (cond (Nat.ble mid 63) (q_kp_3 mid pc) (cond (Nat.ble mid 79) (q_kp_4 mid pc) (q_kp_5 mid pc)))) (cond (Nat.ble mid 143) (cond (Nat.ble mid 111) (q_kp_6 mid pc) (cond (Nat.ble mid 127) (q_kp_7 mid pc) (q_kp_8 mid pc))) (cond (Nat.ble mid 159) (q_kp_9 mid pc) (cond (Nat.ble mid 175) (q_kp_10 mid pc) (q_kp_11 mid pc))))
def q_tb (sx : QX) (mid pc : Nat) : Option QO := cond (Nat.ble mid 178) (cond (Nat.ble mid 95) (cond (Nat.ble mid 47) (cond (Nat.ble mid 15) (q_tb_0 sx mid pc) (cond (Nat.ble mid 31) (q_tb_1 sx mid pc) (q_tb_2 sx mid pc))) (cond (Nat.ble mid 63) (q_tb_3 sx mid pc) (cond (Nat.ble mid 79) (q_tb_4 sx mid pc) (q_tb_5 sx mid pc)))) (cond (Nat.ble mid 143) (cond (Nat.ble mid 111) (q_tb_6 sx mid pc) (cond (Nat.ble mid 127) (q_tb_7 sx mid pc) (q_tb_8 sx mid pc))) (cond (Nat.ble mid 159) (q_tb_9 sx mid pc) (cond (Nat.ble mid 175) (q_tb_10 sx mid pc) (q_tb_11 sx mid pc))))) none
theorem q_cbm {P : QO → Prop} {a k : Nat} {x y : Option QO} (h1 : a ≤ k → ∀ o, x = some o → P o) (h2 : k < a → ∀ o, y = some o → P o) : ∀ o, cond (Nat.ble a k) x y = some o → P o := by
  cases h : Nat.ble a k with
  | true => exact h1 (Nat.le_of_ble_eq_true h)
  | false => exact h2 (Nat.not_le.mp fun q => by rw [q_lT q] at h; cases h)
theorem q_TB_0 (sx : QX) (mid pc : Nat) (ha : 0 ≤ mid) (hb : mid ≤ 15) : ∀ o, q_tb_0 sx mid pc = some o → q_Snd sx (q_inf mid).1.cls (q_inf mid).2.1 (q_inf mid).2.2.1 (q_inf mid).2.2.2 pc o := by
  unfold q_tb_0
  refine q_cbm (fun h7 => ?_) (fun h7 => ?_)
  · refine q_cbm (fun h3 => ?_) (fun h3 => ?_)
    · refine q_cbm (fun h1 => ?_) (fun h1 => ?_)
      · refine q_cbm (fun h0 => ?_) (fun h0 => ?_)
        · obtain rfl : mid = 0 := by omega
          exact ts_X0_clear sx pc
        · obtain rfl : mid = 1 := by omega
          exact ts_X0_isWhole sx pc
      · refine q_cbm (fun h2 => ?_) (fun h2 => ?_)
        · obtain rfl : mid = 2 := by omega
          exact ts_X0_addBlock sx pc
        · obtain rfl : mid = 3 := by omega
          exact ts_X0_addWord sx pc
    · refine q_cbm (fun h5 => ?_) (fun h5 => ?_)
      · refine q_cbm (fun h4 => ?_) (fun h4 => ?_)
        · obtain rfl : mid = 4 := by omega
          exact ts_X0_addSpeaker sx pc
        · obtain rfl : mid = 5 := by omega
          exact ts_X0_setFrost sx pc
      · refine q_cbm (fun h6 => ?_) (fun h6 => ?_)
        · obtain rfl : mid = 6 := by omega
          exact ts_X0_addVow sx pc
        · obtain rfl : mid = 7 := by omega
          exact ts_X0_reckon sx pc
  · refine q_cbm (fun h11 => ?_) (fun h11 => ?_)
    · refine q_cbm (fun h9 => ?_) (fun h9 => ?_)
      · refine q_cbm (fun h8 => ?_) (fun h8 => ?_)
        · obtain rfl : mid = 8 := by omega
          exact ts_X0_plainWorth sx pc
        · obtain rfl : mid = 9 := by omega
          exact ts_X0_spokenWorth sx pc
      · refine q_cbm (fun h10 => ?_) (fun h10 => ?_)
        · obtain rfl : mid = 10 := by omega
          exact ts_X0_coldFor sx pc
        · obtain rfl : mid = 11 := by omega
          exact ts_X0_vowPlace sx pc
    · refine q_cbm (fun h13 => ?_) (fun h13 => ?_)
      · refine q_cbm (fun h12 => ?_) (fun h12 => ?_)
        · obtain rfl : mid = 12 := by omega
          exact ts_X0_wordPlace sx pc
        · obtain rfl : mid = 13 := by omega
          exact ts_X0_sayingPlace sx pc
      · refine q_cbm (fun h14 => ?_) (fun h14 => ?_)
        · obtain rfl : mid = 14 := by omega
          exact ts_X1_seek sx pc
        · obtain rfl : mid = 15 := by omega
          exact ts_X1_extend sx pc
theorem q_TB_1 (sx : QX) (mid pc : Nat) (ha : 16 ≤ mid) (hb : mid ≤ 31) : ∀ o, q_tb_1 sx mid pc = some o → q_Snd sx (q_inf mid).1.cls (q_inf mid).2.1 (q_inf mid).2.2.1 (q_inf mid).2.2.2 pc o := by
  unfold q_tb_1
  refine q_cbm (fun h23 => ?_) (fun h23 => ?_)
  · refine q_cbm (fun h19 => ?_) (fun h19 => ?_)
    · refine q_cbm (fun h17 => ?_) (fun h17 => ?_)
      · refine q_cbm (fun h16 => ?_) (fun h16 => ?_)
        · obtain rfl : mid = 16 := by omega
          exact ts_X2_clear sx pc
        · obtain rfl : mid = 17 := by omega
          exact ts_X2_push sx pc
      · refine q_cbm (fun h18 => ?_) (fun h18 => ?_)
        · obtain rfl : mid = 18 := by omega
          exact ts_X2_pop sx pc
        · obtain rfl : mid = 19 := by omega
          exact ts_X3_begin sx pc
    · refine q_cbm (fun h21 => ?_) (fun h21 => ?_)
      · refine q_cbm (fun h20 => ?_) (fun h20 => ?_)
        · obtain rfl : mid = 20 := by omega
          exact ts_X3_copyFrom sx pc
        · obtain rfl : mid = 21 := by omega
          exact ts_X3_isIn sx pc
      · refine q_cbm (fun h22 => ?_) (fun h22 => ?_)
        · obtain rfl : mid = 22 := by omega
          exact ts_X3_tally sx pc
        · obtain rfl : mid = 23 := by omega
          exact ts_X3_hoursLeft sx pc
  · refine q_cbm (fun h27 => ?_) (fun h27 => ?_)
    · refine q_cbm (fun h25 => ?_) (fun h25 => ?_)
      · refine q_cbm (fun h24 => ?_) (fun h24 => ?_)
        · obtain rfl : mid = 24 := by omega
          exact ts_X3_lackOf sx pc
        · obtain rfl : mid = 25 := by omega
          exact ts_X3_timesHeard sx pc
      · refine q_cbm (fun h26 => ?_) (fun h26 => ?_)
        · obtain rfl : mid = 26 := by omega
          exact ts_X3_worthOf sx pc
        · obtain rfl : mid = 27 := by omega
          exact ts_X3_vowOf sx pc
    · refine q_cbm (fun h29 => ?_) (fun h29 => ?_)
      · refine q_cbm (fun h28 => ?_) (fun h28 => ?_)
        · obtain rfl : mid = 28 := by omega
          exact ts_X3_canSay sx pc
        · obtain rfl : mid = 29 := by omega
          exact ts_X3_speak sx pc
      · refine q_cbm (fun h30 => ?_) (fun h30 => ?_)
        · obtain rfl : mid = 30 := by omega
          exact ts_X3_hear sx pc
        · obtain rfl : mid = 31 := by omega
          exact ts_X3_hearsThrough sx pc
theorem q_TB_2 (sx : QX) (mid pc : Nat) (ha : 32 ≤ mid) (hb : mid ≤ 47) : ∀ o, q_tb_2 sx mid pc = some o → q_Snd sx (q_inf mid).1.cls (q_inf mid).2.1 (q_inf mid).2.2.1 (q_inf mid).2.2.2 pc o := by
  unfold q_tb_2
  refine q_cbm (fun h39 => ?_) (fun h39 => ?_)
  · refine q_cbm (fun h35 => ?_) (fun h35 => ?_)
    · refine q_cbm (fun h33 => ?_) (fun h33 => ?_)
      · refine q_cbm (fun h32 => ?_) (fun h32 => ?_)
        · obtain rfl : mid = 32 := by omega
          exact ts_X3_soften sx pc
        · obtain rfl : mid = 33 := by omega
          exact ts_X3_vow sx pc
      · refine q_cbm (fun h34 => ?_) (fun h34 => ?_)
        · obtain rfl : mid = 34 := by omega
          exact ts_X3_carryOff sx pc
        · obtain rfl : mid = 35 := by omega
          exact ts_X3_wouldCrack sx pc
    · refine q_cbm (fun h37 => ?_) (fun h37 => ?_)
      · refine q_cbm (fun h36 => ?_) (fun h36 => ?_)
        · obtain rfl : mid = 36 := by omega
          exact ts_X3_belies sx pc
        · obtain rfl : mid = 37 := by omega
          exact ts_X3_night sx pc
      · refine q_cbm (fun h38 => ?_) (fun h38 => ?_)
        · obtain rfl : mid = 38 := by omega
          exact ts_X3_dearest sx pc
        · obtain rfl : mid = 39 := by omega
          exact ts_X3_askAll sx pc
  · refine q_cbm (fun h43 => ?_) (fun h43 => ?_)
    · refine q_cbm (fun h41 => ?_) (fun h41 => ?_)
      · refine q_cbm (fun h40 => ?_) (fun h40 => ?_)
        · obtain rfl : mid = 40 := by omega
          exact ts_X3_askOne sx pc
        · obtain rfl : mid = 41 := by omega
          exact ts_X3_dearestWord sx pc
      · refine q_cbm (fun h42 => ?_) (fun h42 => ?_)
        · obtain rfl : mid = 42 := by omega
          exact ts_X3_mildest sx pc
        · obtain rfl : mid = 43 := by omega
          exact ts_X3_harmOf sx pc
    · refine q_cbm (fun h45 => ?_) (fun h45 => ?_)
      · refine q_cbm (fun h44 => ?_) (fun h44 => ?_)
        · obtain rfl : mid = 44 := by omega
          exact ts_X3_explains sx pc
        · obtain rfl : mid = 45 := by omega
          exact ts_X3_explainsOne sx pc
      · refine q_cbm (fun h46 => ?_) (fun h46 => ?_)
        · obtain rfl : mid = 46 := by omega
          exact ts_X3_softerBy sx pc
        · obtain rfl : mid = 47 := by omega
          exact ts_X4_shortest sx pc
theorem q_TB_3 (sx : QX) (mid pc : Nat) (ha : 48 ≤ mid) (hb : mid ≤ 63) : ∀ o, q_tb_3 sx mid pc = some o → q_Snd sx (q_inf mid).1.cls (q_inf mid).2.1 (q_inf mid).2.2.1 (q_inf mid).2.2.2 pc o := by
  unfold q_tb_3
  refine q_cbm (fun h55 => ?_) (fun h55 => ?_)
  · refine q_cbm (fun h51 => ?_) (fun h51 => ?_)
    · refine q_cbm (fun h49 => ?_) (fun h49 => ?_)
      · refine q_cbm (fun h48 => ?_) (fun h48 => ?_)
        · obtain rfl : mid = 48 := by omega
          exact ts_X4_extend sx pc
        · obtain rfl : mid = 49 := by omega
          exact ts_X4_shift sx pc
      · refine q_cbm (fun h50 => ?_) (fun h50 => ?_)
        · obtain rfl : mid = 50 := by omega
          exact ts_X5_append sx pc
        · obtain rfl : mid = 51 := by omega
          exact ts_X5_readInto sx pc
    · refine q_cbm (fun h53 => ?_) (fun h53 => ?_)
      · refine q_cbm (fun h52 => ?_) (fun h52 => ?_)
        · obtain rfl : mid = 52 := by omega
          exact ts_X5_readItem sx pc
        · obtain rfl : mid = 53 := by omega
          exact ts_X5_readNumbers sx pc
      · refine q_cbm (fun h54 => ?_) (fun h54 => ?_)
        · obtain rfl : mid = 54 := by omega
          exact ts_X5_readNumber sx pc
        · obtain rfl : mid = 55 := by omega
          exact ts_X5_letterAt sx pc
  · refine q_cbm (fun h59 => ?_) (fun h59 => ?_)
    · refine q_cbm (fun h57 => ?_) (fun h57 => ?_)
      · refine q_cbm (fun h56 => ?_) (fun h56 => ?_)
        · obtain rfl : mid = 56 := by omega
          exact ts_X6_write sx pc
        · obtain rfl : mid = 57 := by omega
          exact ts_X6_wipe sx pc
      · refine q_cbm (fun h58 => ?_) (fun h58 => ?_)
        · obtain rfl : mid = 58 := by omega
          exact ts_X6_fault sx pc
        · obtain rfl : mid = 59 := by omega
          exact ts_X6_lay sx pc
    · refine q_cbm (fun h61 => ?_) (fun h61 => ?_)
      · refine q_cbm (fun h60 => ?_) (fun h60 => ?_)
        · obtain rfl : mid = 60 := by omega
          exact ts_X6_block sx pc
        · obtain rfl : mid = 61 := by omega
          exact ts_X6_word sx pc
      · refine q_cbm (fun h62 => ?_) (fun h62 => ?_)
        · obtain rfl : mid = 62 := by omega
          exact ts_X6_speaker sx pc
        · obtain rfl : mid = 63 := by omega
          exact ts_X6_heard sx pc
theorem q_TB_4 (sx : QX) (mid pc : Nat) (ha : 64 ≤ mid) (hb : mid ≤ 79) : ∀ o, q_tb_4 sx mid pc = some o → q_Snd sx (q_inf mid).1.cls (q_inf mid).2.1 (q_inf mid).2.2.1 (q_inf mid).2.2.2 pc o := by
  unfold q_tb_4
  refine q_cbm (fun h71 => ?_) (fun h71 => ?_)
  · refine q_cbm (fun h67 => ?_) (fun h67 => ?_)
    · refine q_cbm (fun h65 => ?_) (fun h65 => ?_)
      · refine q_cbm (fun h64 => ?_) (fun h64 => ?_)
        · obtain rfl : mid = 64 := by omega
          exact ts_X6_promised sx pc
        · obtain rfl : mid = 65 := by omega
          exact ts_X6_worth sx pc
      · refine q_cbm (fun h66 => ?_) (fun h66 => ?_)
        · obtain rfl : mid = 66 := by omega
          exact ts_X6_say sx pc
        · obtain rfl : mid = 67 := by omega
          exact ts_X6_promise sx pc
    · refine q_cbm (fun h69 => ?_) (fun h69 => ?_)
      · refine q_cbm (fun h68 => ?_) (fun h68 => ?_)
        · obtain rfl : mid = 68 := by omega
          exact ts_X6_take sx pc
        · obtain rfl : mid = 69 := by omega
          exact ts_X6_pass sx pc
      · refine q_cbm (fun h70 => ?_) (fun h70 => ?_)
        · obtain rfl : mid = 70 := by omega
          exact ts_X6_undo sx pc
        · obtain rfl : mid = 71 := by omega
          exact ts_X6_least sx pc
  · refine q_cbm (fun h75 => ?_) (fun h75 => ?_)
    · refine q_cbm (fun h73 => ?_) (fun h73 => ?_)
      · refine q_cbm (fun h72 => ?_) (fun h72 => ?_)
        · obtain rfl : mid = 72 := by omega
          exact ts_X6_best sx pc
        · obtain rfl : mid = 73 := by omega
          exact ts_X6_order sx pc
      · refine q_cbm (fun h74 => ?_) (fun h74 => ?_)
        · obtain rfl : mid = 74 := by omega
          exact ts_X6_days sx pc
        · obtain rfl : mid = 75 := by omega
          exact ts_X6_frost sx pc
    · refine q_cbm (fun h77 => ?_) (fun h77 => ?_)
      · refine q_cbm (fun h76 => ?_) (fun h76 => ?_)
        · obtain rfl : mid = 76 := by omega
          exact ts_X6_uses sx pc
        · obtain rfl : mid = 77 := by omega
          exact ts_X6_harm sx pc
      · refine q_cbm (fun h78 => ?_) (fun h78 => ?_)
        · obtain rfl : mid = 78 := by omega
          exact ts_X6_liars sx pc
        · obtain rfl : mid = 79 := by omega
          exact ts_X6_said sx pc
theorem q_TB_5 (sx : QX) (mid pc : Nat) (ha : 80 ≤ mid) (hb : mid ≤ 95) : ∀ o, q_tb_5 sx mid pc = some o → q_Snd sx (q_inf mid).1.cls (q_inf mid).2.1 (q_inf mid).2.2.1 (q_inf mid).2.2.2 pc o := by
  unfold q_tb_5
  refine q_cbm (fun h87 => ?_) (fun h87 => ?_)
  · refine q_cbm (fun h83 => ?_) (fun h83 => ?_)
    · refine q_cbm (fun h81 => ?_) (fun h81 => ?_)
      · refine q_cbm (fun h80 => ?_) (fun h80 => ?_)
        · obtain rfl : mid = 80 := by omega
          exact ts_X6_deaf sx pc
        · obtain rfl : mid = 81 := by omega
          exact ts_X6_year sx pc
      · refine q_cbm (fun h82 => ?_) (fun h82 => ?_)
        · obtain rfl : mid = 82 := by omega
          exact ts_X6_keep sx pc
        · obtain rfl : mid = 83 := by omega
          exact ts_X6_back sx pc
    · refine q_cbm (fun h85 => ?_) (fun h85 => ?_)
      · refine q_cbm (fun h84 => ?_) (fun h84 => ?_)
        · obtain rfl : mid = 84 := by omega
          exact ts_X6_count sx pc
        · obtain rfl : mid = 85 := by omega
          exact ts_X6_layOut sx pc
      · refine q_cbm (fun h86 => ?_) (fun h86 => ?_)
        · obtain rfl : mid = 86 := by omega
          exact ts_X6_isBlock sx pc
        · obtain rfl : mid = 87 := by omega
          exact ts_X6_isWord sx pc
  · refine q_cbm (fun h91 => ?_) (fun h91 => ?_)
    · refine q_cbm (fun h89 => ?_) (fun h89 => ?_)
      · refine q_cbm (fun h88 => ?_) (fun h88 => ?_)
        · obtain rfl : mid = 88 := by omega
          exact ts_X6_isSpeaker sx pc
        · obtain rfl : mid = 89 := by omega
          exact ts_X6_isSaying sx pc
      · refine q_cbm (fun h90 => ?_) (fun h90 => ?_)
        · obtain rfl : mid = 90 := by omega
          exact ts_X6_isUse sx pc
        · obtain rfl : mid = 91 := by omega
          exact ts_X6_isPart sx pc
    · refine q_cbm (fun h93 => ?_) (fun h93 => ?_)
      · refine q_cbm (fun h92 => ?_) (fun h92 => ?_)
        · obtain rfl : mid = 92 := by omega
          exact ts_X6_saying sx pc
        · obtain rfl : mid = 93 := by omega
          exact ts_X6_weight sx pc
      · refine q_cbm (fun h94 => ?_) (fun h94 => ?_)
        · obtain rfl : mid = 94 := by omega
          exact ts_X6_commonMeasure sx pc
        · obtain rfl : mid = 95 := by omega
          exact ts_X6_drawOf sx pc
theorem q_TB_6 (sx : QX) (mid pc : Nat) (ha : 96 ≤ mid) (hb : mid ≤ 111) : ∀ o, q_tb_6 sx mid pc = some o → q_Snd sx (q_inf mid).1.cls (q_inf mid).2.1 (q_inf mid).2.2.1 (q_inf mid).2.2.2 pc o := by
  unfold q_tb_6
  refine q_cbm (fun h103 => ?_) (fun h103 => ?_)
  · refine q_cbm (fun h99 => ?_) (fun h99 => ?_)
    · refine q_cbm (fun h97 => ?_) (fun h97 => ?_)
      · refine q_cbm (fun h96 => ?_) (fun h96 => ?_)
        · obtain rfl : mid = 96 := by omega
          exact ts_X6_live sx pc
        · obtain rfl : mid = 97 := by omega
          exact ts_X6_at sx pc
      · refine q_cbm (fun h98 => ?_) (fun h98 => ?_)
        · obtain rfl : mid = 98 := by omega
          exact ts_X6_put sx pc
        · obtain rfl : mid = 99 := by omega
          exact ts_X6_fill sx pc
    · refine q_cbm (fun h101 => ?_) (fun h101 => ?_)
      · refine q_cbm (fun h100 => ?_) (fun h100 => ?_)
        · obtain rfl : mid = 100 := by omega
          exact ts_X6_copy sx pc
        · obtain rfl : mid = 101 := by omega
          exact ts_X6_pick sx pc
      · refine q_cbm (fun h102 => ?_) (fun h102 => ?_)
        · obtain rfl : mid = 102 := by omega
          exact ts_X7_in sx pc
        · obtain rfl : mid = 103 := by omega
          exact ts_X7_has sx pc
  · refine q_cbm (fun h107 => ?_) (fun h107 => ?_)
    · refine q_cbm (fun h105 => ?_) (fun h105 => ?_)
      · refine q_cbm (fun h104 => ?_) (fun h104 => ?_)
        · obtain rfl : mid = 104 := by omega
          exact ts_X7_ones sx pc
        · obtain rfl : mid = 105 := by omega
          exact ts_X7_copy sx pc
      · refine q_cbm (fun h106 => ?_) (fun h106 => ?_)
        · obtain rfl : mid = 106 := by omega
          exact ts_X7_isBlock sx pc
        · obtain rfl : mid = 107 := by omega
          exact ts_X7_isWord sx pc
    · refine q_cbm (fun h109 => ?_) (fun h109 => ?_)
      · refine q_cbm (fun h108 => ?_) (fun h108 => ?_)
        · obtain rfl : mid = 108 := by omega
          exact ts_X7_isSpeaker sx pc
        · obtain rfl : mid = 109 := by omega
          exact ts_X7_starts sx pc
      · refine q_cbm (fun h110 => ?_) (fun h110 => ?_)
        · obtain rfl : mid = 110 := by omega
          exact ts_X7_addsBlock sx pc
        · obtain rfl : mid = 111 := by omega
          exact ts_X7_addsWord sx pc
theorem q_TB_7 (sx : QX) (mid pc : Nat) (ha : 112 ≤ mid) (hb : mid ≤ 127) : ∀ o, q_tb_7 sx mid pc = some o → q_Snd sx (q_inf mid).1.cls (q_inf mid).2.1 (q_inf mid).2.2.1 (q_inf mid).2.2.2 pc o := by
  unfold q_tb_7
  refine q_cbm (fun h119 => ?_) (fun h119 => ?_)
  · refine q_cbm (fun h115 => ?_) (fun h115 => ?_)
    · refine q_cbm (fun h113 => ?_) (fun h113 => ?_)
      · refine q_cbm (fun h112 => ?_) (fun h112 => ?_)
        · obtain rfl : mid = 112 := by omega
          exact ts_X7_addsSpeaker sx pc
        · obtain rfl : mid = 113 := by omega
          exact ts_X7_begins sx pc
      · refine q_cbm (fun h114 => ?_) (fun h114 => ?_)
        · obtain rfl : mid = 114 := by omega
          exact ts_X7_write sx pc
        · obtain rfl : mid = 115 := by omega
          exact ts_X7_wipe sx pc
    · refine q_cbm (fun h117 => ?_) (fun h117 => ?_)
      · refine q_cbm (fun h116 => ?_) (fun h116 => ?_)
        · obtain rfl : mid = 116 := by omega
          exact ts_X7_letterAt sx pc
        · obtain rfl : mid = 117 := by omega
          exact ts_X7_takesNumber sx pc
      · refine q_cbm (fun h118 => ?_) (fun h118 => ?_)
        · obtain rfl : mid = 118 := by omega
          exact ts_X7_takesBlock sx pc
        · obtain rfl : mid = 119 := by omega
          exact ts_X7_takesWord sx pc
  · refine q_cbm (fun h123 => ?_) (fun h123 => ?_)
    · refine q_cbm (fun h121 => ?_) (fun h121 => ?_)
      · refine q_cbm (fun h120 => ?_) (fun h120 => ?_)
        · obtain rfl : mid = 120 := by omega
          exact ts_X7_takesSpeaker sx pc
        · obtain rfl : mid = 121 := by omega
          exact ts_X7_takesFrost sx pc
      · refine q_cbm (fun h122 => ?_) (fun h122 => ?_)
        · obtain rfl : mid = 122 := by omega
          exact ts_X7_takesPromise sx pc
        · obtain rfl : mid = 123 := by omega
          exact ts_X7_takesItem sx pc
    · refine q_cbm (fun h125 => ?_) (fun h125 => ?_)
      · refine q_cbm (fun h124 => ?_) (fun h124 => ?_)
        · obtain rfl : mid = 124 := by omega
          exact ts_X7_faultOf sx pc
        · obtain rfl : mid = 125 := by omega
          exact ts_X7_fault sx pc
      · refine q_cbm (fun h126 => ?_) (fun h126 => ?_)
        · obtain rfl : mid = 126 := by omega
          exact ts_X7_lay sx pc
        · obtain rfl : mid = 127 := by omega
          exact ts_X7_block sx pc
theorem q_TB_8 (sx : QX) (mid pc : Nat) (ha : 128 ≤ mid) (hb : mid ≤ 143) : ∀ o, q_tb_8 sx mid pc = some o → q_Snd sx (q_inf mid).1.cls (q_inf mid).2.1 (q_inf mid).2.2.1 (q_inf mid).2.2.2 pc o := by
  unfold q_tb_8
  refine q_cbm (fun h135 => ?_) (fun h135 => ?_)
  · refine q_cbm (fun h131 => ?_) (fun h131 => ?_)
    · refine q_cbm (fun h129 => ?_) (fun h129 => ?_)
      · refine q_cbm (fun h128 => ?_) (fun h128 => ?_)
        · obtain rfl : mid = 128 := by omega
          exact ts_X7_word sx pc
        · obtain rfl : mid = 129 := by omega
          exact ts_X7_speaker sx pc
      · refine q_cbm (fun h130 => ?_) (fun h130 => ?_)
        · obtain rfl : mid = 130 := by omega
          exact ts_X7_heard sx pc
        · obtain rfl : mid = 131 := by omega
          exact ts_X7_promised sx pc
    · refine q_cbm (fun h133 => ?_) (fun h133 => ?_)
      · refine q_cbm (fun h132 => ?_) (fun h132 => ?_)
        · obtain rfl : mid = 132 := by omega
          exact ts_X7_byKind sx pc
        · obtain rfl : mid = 133 := by omega
          exact ts_X7_less sx pc
      · refine q_cbm (fun h134 => ?_) (fun h134 => ?_)
        · obtain rfl : mid = 134 := by omega
          exact ts_X7_heardOf sx pc
        · obtain rfl : mid = 135 := by omega
          exact ts_X7_spoken sx pc
  · refine q_cbm (fun h139 => ?_) (fun h139 => ?_)
    · refine q_cbm (fun h137 => ?_) (fun h137 => ?_)
      · refine q_cbm (fun h136 => ?_) (fun h136 => ?_)
        · obtain rfl : mid = 136 := by omega
          exact ts_X7_worthOf sx pc
        · obtain rfl : mid = 137 := by omega
          exact ts_X7_worth sx pc
      · refine q_cbm (fun h138 => ?_) (fun h138 => ?_)
        · obtain rfl : mid = 138 := by omega
          exact ts_X7_inBed sx pc
        · obtain rfl : mid = 139 := by omega
          exact ts_X7_hears sx pc
    · refine q_cbm (fun h141 => ?_) (fun h141 => ?_)
      · refine q_cbm (fun h140 => ?_) (fun h140 => ?_)
        · obtain rfl : mid = 140 := by omega
          exact ts_X7_comes sx pc
        · obtain rfl : mid = 141 := by omega
          exact ts_X7_says sx pc
      · refine q_cbm (fun h142 => ?_) (fun h142 => ?_)
        · obtain rfl : mid = 142 := by omega
          exact ts_X7_passes sx pc
        · obtain rfl : mid = 143 := by omega
          exact ts_X7_canSay sx pc
theorem q_TB_9 (sx : QX) (mid pc : Nat) (ha : 144 ≤ mid) (hb : mid ≤ 159) : ∀ o, q_tb_9 sx mid pc = some o → q_Snd sx (q_inf mid).1.cls (q_inf mid).2.1 (q_inf mid).2.2.1 (q_inf mid).2.2.2 pc o := by
  unfold q_tb_9
  refine q_cbm (fun h151 => ?_) (fun h151 => ?_)
  · refine q_cbm (fun h147 => ?_) (fun h147 => ?_)
    · refine q_cbm (fun h145 => ?_) (fun h145 => ?_)
      · refine q_cbm (fun h144 => ?_) (fun h144 => ?_)
        · obtain rfl : mid = 144 := by omega
          exact ts_X7_isElse sx pc
        · obtain rfl : mid = 145 := by omega
          exact ts_X7_takesFor sx pc
      · refine q_cbm (fun h146 => ?_) (fun h146 => ?_)
        · obtain rfl : mid = 146 := by omega
          exact ts_X7_minds sx pc
        · obtain rfl : mid = 147 := by omega
          exact ts_X7_say sx pc
    · refine q_cbm (fun h149 => ?_) (fun h149 => ?_)
      · refine q_cbm (fun h148 => ?_) (fun h148 => ?_)
        · obtain rfl : mid = 148 := by omega
          exact ts_X7_promise sx pc
        · obtain rfl : mid = 149 := by omega
          exact ts_X7_take sx pc
      · refine q_cbm (fun h150 => ?_) (fun h150 => ?_)
        · obtain rfl : mid = 150 := by omega
          exact ts_X7_pass sx pc
        · obtain rfl : mid = 151 := by omega
          exact ts_X7_undo sx pc
  · refine q_cbm (fun h155 => ?_) (fun h155 => ?_)
    · refine q_cbm (fun h153 => ?_) (fun h153 => ?_)
      · refine q_cbm (fun h152 => ?_) (fun h152 => ?_)
        · obtain rfl : mid = 152 := by omega
          exact ts_X7_tries sx pc
        · obtain rfl : mid = 153 := by omega
          exact ts_X7_bringsOut sx pc
      · refine q_cbm (fun h154 => ?_) (fun h154 => ?_)
        · obtain rfl : mid = 154 := by omega
          exact ts_X7_least sx pc
        · obtain rfl : mid = 155 := by omega
          exact ts_X7_bestOf sx pc
    · refine q_cbm (fun h157 => ?_) (fun h157 => ?_)
      · refine q_cbm (fun h156 => ?_) (fun h156 => ?_)
        · obtain rfl : mid = 156 := by omega
          exact ts_X7_best sx pc
        · obtain rfl : mid = 157 := by omega
          exact ts_X7_asks sx pc
      · refine q_cbm (fun h158 => ?_) (fun h158 => ?_)
        · obtain rfl : mid = 158 := by omega
          exact ts_X7_bedOf sx pc
        · obtain rfl : mid = 159 := by omega
          exact ts_X7_bestOrder sx pc
theorem q_TB_10 (sx : QX) (mid pc : Nat) (ha : 160 ≤ mid) (hb : mid ≤ 175) : ∀ o, q_tb_10 sx mid pc = some o → q_Snd sx (q_inf mid).1.cls (q_inf mid).2.1 (q_inf mid).2.2.1 (q_inf mid).2.2.2 pc o := by
  unfold q_tb_10
  refine q_cbm (fun h167 => ?_) (fun h167 => ?_)
  · refine q_cbm (fun h163 => ?_) (fun h163 => ?_)
    · refine q_cbm (fun h161 => ?_) (fun h161 => ?_)
      · refine q_cbm (fun h160 => ?_) (fun h160 => ?_)
        · obtain rfl : mid = 160 := by omega
          exact ts_X7_order sx pc
        · obtain rfl : mid = 161 := by omega
          exact ts_X7_bestWord sx pc
      · refine q_cbm (fun h162 => ?_) (fun h162 => ?_)
        · obtain rfl : mid = 162 := by omega
          exact ts_X7_days sx pc
        · obtain rfl : mid = 163 := by omega
          exact ts_X7_frost sx pc
    · refine q_cbm (fun h165 => ?_) (fun h165 => ?_)
      · refine q_cbm (fun h164 => ?_) (fun h164 => ?_)
        · obtain rfl : mid = 164 := by omega
          exact ts_X7_uses sx pc
        · obtain rfl : mid = 165 := by omega
          exact ts_X7_harmOf sx pc
      · refine q_cbm (fun h166 => ?_) (fun h166 => ?_)
        · obtain rfl : mid = 166 := by omega
          exact ts_X7_harm sx pc
        · obtain rfl : mid = 167 := by omega
          exact ts_X7_lies sx pc
  · refine q_cbm (fun h171 => ?_) (fun h171 => ?_)
    · refine q_cbm (fun h169 => ?_) (fun h169 => ?_)
      · refine q_cbm (fun h168 => ?_) (fun h168 => ?_)
        · obtain rfl : mid = 168 := by omega
          exact ts_X7_liars sx pc
        · obtain rfl : mid = 169 := by omega
          exact ts_X7_said sx pc
      · refine q_cbm (fun h170 => ?_) (fun h170 => ?_)
        · obtain rfl : mid = 170 := by omega
          exact ts_X7_deaf sx pc
        · obtain rfl : mid = 171 := by omega
          exact ts_X7_manyHow sx pc
    · refine q_cbm (fun h173 => ?_) (fun h173 => ?_)
      · refine q_cbm (fun h172 => ?_) (fun h172 => ?_)
        · obtain rfl : mid = 172 := by omega
          exact ts_X7_doesBy sx pc
        · obtain rfl : mid = 173 := by omega
          exact ts_X7_year sx pc
      · refine q_cbm (fun h174 => ?_) (fun h174 => ?_)
        · obtain rfl : mid = 174 := by omega
          exact ts_X7_keep sx pc
        · obtain rfl : mid = 175 := by omega
          exact ts_X7_back sx pc
theorem q_TB_11 (sx : QX) (mid pc : Nat) (ha : 176 ≤ mid) (hb : mid ≤ 178) : ∀ o, q_tb_11 sx mid pc = some o → q_Snd sx (q_inf mid).1.cls (q_inf mid).2.1 (q_inf mid).2.2.1 (q_inf mid).2.2.2 pc o := by
  unfold q_tb_11
  refine q_cbm (fun h176 => ?_) (fun h176 => ?_)
  · obtain rfl : mid = 176 := by omega
    exact ts_X7_count sx pc
  · refine q_cbm (fun h177 => ?_) (fun h177 => ?_)
    · obtain rfl : mid = 177 := by omega
      exact ts_J6_bitCount_0f7a4 sx pc
    · obtain rfl : mid = 178 := by omega
      exact ts_L_law sx pc
theorem q_TB_all (sx : QX) : q_TB sx (q_tb sx) := by
  intro mid pc
  unfold q_tb
  refine q_cbm (fun hz => ?_) (fun _ o h => by cases h)
  refine q_cbm (fun h95 => ?_) (fun h95 => ?_)
  · refine q_cbm (fun h47 => ?_) (fun h47 => ?_)
    · refine q_cbm (fun h15 => ?_) (fun h15 => ?_)
      · exact q_TB_0 sx mid pc (by omega) (by omega)
      · refine q_cbm (fun h31 => ?_) (fun h31 => ?_)
        · exact q_TB_1 sx mid pc (by omega) (by omega)
        · exact q_TB_2 sx mid pc (by omega) (by omega)
    · refine q_cbm (fun h63 => ?_) (fun h63 => ?_)
      · exact q_TB_3 sx mid pc (by omega) (by omega)
      · refine q_cbm (fun h79 => ?_) (fun h79 => ?_)
        · exact q_TB_4 sx mid pc (by omega) (by omega)
        · exact q_TB_5 sx mid pc (by omega) (by omega)
  · refine q_cbm (fun h143 => ?_) (fun h143 => ?_)
    · refine q_cbm (fun h111 => ?_) (fun h111 => ?_)
      · exact q_TB_6 sx mid pc (by omega) (by omega)
      · refine q_cbm (fun h127 => ?_) (fun h127 => ?_)
        · exact q_TB_7 sx mid pc (by omega) (by omega)
        · exact q_TB_8 sx mid pc (by omega) (by omega)
    · refine q_cbm (fun h159 => ?_) (fun h159 => ?_)
      · exact q_TB_9 sx mid pc (by omega) (by omega)
      · refine q_cbm (fun h175 => ?_) (fun h175 => ?_)
        · exact q_TB_10 sx mid pc (by omega) (by omega)
        · exact q_TB_11 sx mid pc (by omega) (by omega)

set_option maxRecDepth 20000 in
theorem okM_X0_init : gi_okT false gm M_X0_init (gi_tab M_X0_init) [[], [51, 44, 45], [], [], [52], [], [], [54], [], [], [120], [66], [], [], [], [], [], [], [66], [], [], [], [], [], [], [], [120], [70], [], [], [], [], [], [], [70], [], [], [], [], [], [], [], [120], [72], [], [], [120], [75], [], [], [120], [78], [], [], [120], [81], [], [], [120], [83], [], [], [120], [85], [], [], [120], [87], []] = true := by decide +kernel
set_option maxRecDepth 20000 in
theorem okM_X0_copyFrom : gi_okT false gm M_X0_copyFrom (gi_tab M_X0_copyFrom) [[], [], [52], [52], [], [], [54], [54], [], [], [57], [57], [], [], [59], [59], [], [], [61], [61], [], [], [63], [63], [], [66], [], [], [66], [], [], [306, 308, 307, 35], [], [70], [], [], [70], [], [], [306, 308, 307, 35], [], [72], [], [], [72], [], [], [306, 308, 307, 35], [], [75], [], [], [75], [], [], [306, 308, 307, 35], [], [78], [], [], [78], [], [], [306, 308, 307, 35], [], [81], [], [], [81], [], [], [306, 308, 307, 35], [], [83], [], [], [83], [], [], [306, 308, 307, 35], [], [85], [], [], [85], [], [], [306, 308, 307, 35], [], [87], [], [], [87], [], [], [306, 308, 307, 35], []] = true := by decide +kernel
set_option maxRecDepth 20000 in
theorem okM_X0_hasEnded : gi_okT false gm M_X0_hasEnded (gi_tab M_X0_hasEnded) [[], [57], [], [], [], [], [], [], [], [], []] = true := by decide +kernel
set_option maxRecDepth 20000 in
theorem okM_X0_livesLeft : gi_okT false gm M_X0_livesLeft (gi_tab M_X0_livesLeft) [[], [], [57], [235, 237, 34, 236], [], []] = true := by decide +kernel
set_option maxRecDepth 20000 in
theorem okM_X0_stands : gi_okT false gm M_X0_stands (gi_tab M_X0_stands) [[], [], [], [323, 222, 27, 221], [], [], [61], [], [], [], [], [], [], [], [], []] = true := by decide +kernel
set_option maxRecDepth 20000 in
theorem okM_X0_allCash : gi_okT false gm M_X0_allCash (gi_tab M_X0_allCash) [[], [], [], [], [], [], [], [], [], [70], [], [], [], [], [], [], [], []] = true := by decide +kernel
set_option maxRecDepth 20000 in
theorem okM_X0_buyPolicy : gi_okT false gm M_X0_buyPolicy (gi_tab M_X0_buyPolicy) [[], [364, 247, 27, 246], [], [], [338, 219, 27, 218], [], [], [], [339, 230, 28, 228, 229], [], [], [], [], [59], [], [], [], [], [], [], [], [], [66], [], [], [], [365, 367, 27, 366], [], [], [70], [], [], [], [], [], [], [], [52], [], [], [], [], [], [], [], [], [], [70], [], [], [], [], [], [], [], [], [], [54], [], [], [352, 354, 36, 353], [54], [], [], [], [], [], [], [], [52], [], [], [], [], [375, 378, 28, 377, 4], [], []] = true := by decide +kernel
set_option maxRecDepth 20000 in
theorem okM_X0_passOn : gi_okT false gm M_X0_passOn (gi_tab M_X0_passOn) [[], [364, 247, 27, 246], [], [], [70], [], [], [], [], [], [], [], [364, 247, 27, 246], [], [], [], [319, 322, 28, 320, 321], [], [], [72], [], [], [], [], [], [], [], [], [], [], [], [], [70], [], [], [], [], [], [], [], [], [], [355, 358, 28, 357, 3], [], [72], [], [], [], [], []] = true := by decide +kernel
set_option maxRecDepth 20000 in
theorem okM_X0_walk : gi_okT false gm M_X0_walk (gi_tab M_X0_walk) [[], [338, 219, 27, 218], [], [], [], [339, 230, 28, 228, 229], [], [], [], [], [66], [], [], [], [], [], [], [66], [], [], [], [], [], [], [], []] = true := by decide +kernel
set_option maxRecDepth 20000 in
theorem okM_X0_rumour : gi_okT false gm M_X0_rumour (gi_tab M_X0_rumour) [[], [338, 219, 27, 218], [], [], [], [339, 230, 28, 228, 229], [], [], [], [], [66], [], [], [], [], [], [], [], [66], [], [], [], [], [], [], [], []] = true := by decide +kernel
set_option maxRecDepth 20000 in
theorem okM_X0_endLife : gi_okT false gm M_X0_endLife (gi_tab M_X0_endLife) [[], [338, 219, 27, 218], [], [], [], [339, 230, 28, 228, 229], [], [], [], [], [], [57], [], [], [], [], [57], [], [], [], [], [], [], [], [319, 322, 28, 320, 321], [], [], [75], [], [], [], [], [], [78], [], [], [], [54], [352, 354, 36, 353], [], [], [], [72], [], [], [], [355, 358, 28, 357, 3], [], [], [54], [], [], [54], [], [], [324, 327, 28, 326, 1], [], [], [], []] = true := by decide +kernel
set_option maxRecDepth 20000 in
theorem okM_X0_turnMonth : gi_okT false gm M_X0_turnMonth (gi_tab M_X0_turnMonth) [[], [52], [], [], [], [], [], [], [], [], [], [], [], [319, 322, 28, 320, 321], [], [], [81], [], [], [], [52], [], [], [], [324, 327, 28, 326, 1], [], [], [], [], [52], [], [], [52], [], []] = true := by decide +kernel
set_option maxRecDepth 20000 in
theorem okM_X0_enter : gi_okT false gm M_X0_enter (gi_tab M_X0_enter) [[], [59], [], [], [323, 222, 27, 221], [], [], [], [72], [], [59], [], [], [], [75], [], [59], [], [], [], [78], [], [59], [], [], [], [81], [], [59], [], [], [], [], [61], [], [], [59], [], [], [61], [], [], [59], [], [], [59], []] = true := by decide +kernel
set_option maxRecDepth 20000 in
theorem okM_X0_strike : gi_okT false gm M_X0_strike (gi_tab M_X0_strike) [[], [], [61], [], [], [], [], [], [], [61], [], [61], [], [], [], [59], []] = true := by decide +kernel
set_option maxRecDepth 20000 in
theorem okM_X0_receive : gi_okT false gm M_X0_receive (gi_tab M_X0_receive) [[], [], [], [323, 222, 27, 221], [], [], [70], [], [], [], [70], [], [], [], [], [352, 354, 36, 353], [], []] = true := by decide +kernel
set_option maxRecDepth 20000 in
theorem okM_X0_groupOf : gi_okT false gm M_X0_groupOf (gi_tab M_X0_groupOf) [[], [], [], [], [], [], [], [], [], [319, 322, 28, 320, 321], [], [], [72], [], [], [], [], [], [75], [], [], [], [], [], [], [], [], [], [], [], [], [], []] = true := by decide +kernel
set_option maxRecDepth 20000 in
theorem okM_X0_sumOf : gi_okT false gm M_X0_sumOf (gi_tab M_X0_sumOf) [[], [], [], [], [], [], [], [], [], [], [], [], [], [], [], [78], [], [], [], [], [], [], [], []] = true := by decide +kernel
set_option maxRecDepth 20000 in
theorem okM_X0_gainsOf : gi_okT false gm M_X0_gainsOf (gi_tab M_X0_gainsOf) [[], [], [], [], [426, 429, 28, 427, 428], [430, 433, 28, 431, 432], []] = true := by decide +kernel
set_option maxRecDepth 20000 in
theorem okM_X0_owedFor : gi_okT false gm M_X0_owedFor (gi_tab M_X0_owedFor) [[], [], [], [], [], [], [], [], [], [319, 322, 28, 320, 321], [], [], [], [75], [], [], [], [], [], [], [], [], [78], [], [], [], [], [], [], [], []] = true := by decide +kernel
set_option maxRecDepth 20000 in
theorem okM_X0_fewestVoid : gi_okT false gm M_X0_fewestVoid (gi_tab M_X0_fewestVoid) [[], [], [], [235, 237, 34, 236], [], [], [], [], [], [], [], [], [], [235, 237, 34, 236], [], [], [], [], [], [], [], [], [430, 433, 28, 431, 432], [], [], [], [], [], [235, 237, 34, 236], [], [], [], [], [], [], [], [], [], [], [], [], [], []] = true := by decide +kernel
set_option maxRecDepth 20000 in
theorem okM_X0_endingsOf : gi_okT false gm M_X0_endingsOf (gi_tab M_X0_endingsOf) [[], [338, 219, 27, 218], [], [], [], [339, 230, 28, 228, 229], [], [], [], [], [66], [], [], [], [499, 374, 27, 373], []] = true := by decide +kernel
set_option maxRecDepth 20000 in
theorem okM_X0_waysOf : gi_okT false gm M_X0_waysOf (gi_tab M_X0_waysOf) [[], [], [], [], [], [], [], [], [], [], [495, 498, 28, 496, 497], [], [], [], [], [], [], [], [], [], [], [505], [], [506, 371, 27, 370], [], [], [], [], [], [], [], []] = true := by decide +kernel
set_option maxRecDepth 20000 in
theorem okM_X0_meanOwed : gi_okT false gm M_X0_meanOwed (gi_tab M_X0_meanOwed) [[], [], [], [], [], [], [], [], [], [], [], [], [494, 347, 28, 345, 346], [], [], [], [], [495, 498, 28, 496, 497], [], [], [], [], [], [], []] = true := by decide +kernel
set_option maxRecDepth 20000 in
theorem okM_X0_note : gi_okT false gm M_X0_note (gi_tab M_X0_note) [[], [63], [], [], [323, 222, 27, 221], [], [], [], [], [83], [], [63], [], [], [], [85], [], [63], [], [], [], [87], [], [63], [], [], [], [], [63], [], [], [63], [], []] = true := by decide +kernel
set_option maxRecDepth 20000 in
theorem okM_X1_init : gi_okT false gm M_X1_init (gi_tab M_X1_init) [[], [126, 44, 45], [], [127, 47, 28], [], [128, 50, 28, 49], [129], []] = true := by decide +kernel
set_option maxRecDepth 20000 in
theorem okM_X1_readPad : gi_okT false gm M_X1_readPad (gi_tab M_X1_readPad) [[], [129], [], [302, 305, 28, 303, 304], [], [], [131], [], [], [133], [], [], [135], [], [], [137], [], [], [139], [], [], [], [], [], [], [], [], [161], [], [], [133], [], [], [], [], [], [309, 276, 30, 274, 275], [310, 279, 30, 278], [], [], [], [], [], [], [311, 314, 29, 313, 0], [], [], [], [], [], [131], [133], [], [], [135], [], [], [], [], [], [], [131], [], [], [131], [], [], [], [133], [], [], [], [], [], []] = true := by decide +kernel
set_option maxRecDepth 20000 in
theorem okM_X1_tryAct : gi_okT false gm M_X1_tryAct (gi_tab M_X1_tryAct) [[], [], [309, 276, 30, 274, 275], [], [], [], [], [], [309, 276, 30, 274, 275], [], [], [], [], [], [309, 276, 30, 274, 275], [], [], [], [], [], [129], [315, 318, 28, 316, 317], [], [], [328, 285, 30, 284], [329, 219, 27, 218], [], [], [], [328, 285, 30, 284], [], [330, 333, 29, 332, 2], [], [], [359, 289, 30, 288], [], [], [328, 285, 30, 284], [329, 219, 27, 218], [], [], [129], [], [], [328, 285, 30, 284], [], [], [], [], [], [], [], [309, 276, 30, 274, 275], [], [], [360, 363, 28, 361, 362], [], [], [129], [], [], [], [], [], [359, 289, 30, 288], [379, 382, 28, 380, 381], []] = true := by decide +kernel
set_option maxRecDepth 20000 in
theorem okM_X1_tryFate : gi_okT false gm M_X1_tryFate (gi_tab M_X1_tryFate) [[], [], [], [], [129], [], [334, 337, 28, 335, 336], [], [], [], [], [], [129], [], [340, 343, 28, 341, 342], [], [], [129], [], [], [], [344, 347, 28, 345, 346], [], [], [129], [55], [], [], [129], [], [348, 351, 28, 349, 350], [], [], [], [129], [55], [], [], [], [], [137], [], [], [137], [], [], [], [], [], [], [139], [], [], [], [], [131], [139], [], []] = true := by decide +kernel
set_option maxRecDepth 20000 in
theorem okM_X1_drawMonths : gi_okT false gm M_X1_drawMonths (gi_tab M_X1_drawMonths) [[], [129], [], [302, 305, 28, 303, 304], [], [], [], [], [], [], [], [], [], [], [], [], [604], [], [], [], [], [], [], [], [129], [], [605, 230, 28, 228, 229], [], [], [], [], [], [], [], [129], [69], [], [], [], [], [129], [], [348, 351, 28, 349, 350], [], [], [], [129], [], [], [], [], [], [], [], [], [], [], [], [], [], [], [360, 363, 28, 361, 362], [], [], [129], [315, 318, 28, 316, 317], [], [], [], []] = true := by decide +kernel
set_option maxRecDepth 20000 in
theorem okM_X2_init : gi_okT false gm M_X2_init (gi_tab M_X2_init) [[], [174, 44, 45], [], [], [120], [175], [], [], [182], [176], []] = true := by decide +kernel
set_option maxRecDepth 20000 in
theorem okM_X2_lay : gi_okT false gm M_X2_lay (gi_tab M_X2_lay) [[], [], [], [], [], [], [], [451, 230, 28, 228, 229], [], [], [], [], [], [], [], [452, 454, 27, 453], [], [], [], [175], [], [], [], [68], [], [], [], [455, 367, 27, 366], [], [], [176], [], [], [], [], [], [], [452, 454, 27, 453], [], [456, 374, 27, 373], [], [], [175], [], [], [], [457], [], [458, 371, 27, 370], [], [], [], [], [], []] = true := by decide +kernel
set_option maxRecDepth 20000 in
theorem okM_X2_bestSet : gi_okT false gm M_X2_bestSet (gi_tab M_X2_bestSet) [[], [], [], [], [], [], [], [], [], [], [], [463, 466, 31, 465, 5], [], [], [], [], [467, 470, 31, 468, 469], [], [], [], [], [], [], [], [], [], [], [], [], []] = true := by decide +kernel
set_option maxRecDepth 20000 in
theorem okM_X2_costOf : gi_okT false gm M_X2_costOf (gi_tab M_X2_costOf) [[], [], [], [], [], [], [], [], [], [], [], [], [], [], [], [175], [], [], [], [], [], [], [], []] = true := by decide +kernel
set_option maxRecDepth 20000 in
theorem okM_X2_surplusOf : gi_okT false gm M_X2_surplusOf (gi_tab M_X2_surplusOf) [[], [], [], [], [], [], [], [], [], [], [], [], [], [], [], [176], [], [], [], [], [], [], [], []] = true := by decide +kernel
set_option maxRecDepth 20000 in
theorem okM_X3_init : gi_okT false gm M_X3_init (gi_tab M_X3_init) [[], [159, 44, 45], [], [], [120], [163], []] = true := by decide +kernel
set_option maxRecDepth 20000 in
theorem okM_X3_write : gi_okT false gm M_X3_write (gi_tab M_X3_write) [[], [160], [], [], [260, 222, 27, 221], [], [], [], [], [163], [], [160], [], [], [], [], [160], [], [], [160], [], []] = true := by decide +kernel
set_option maxRecDepth 20000 in
theorem okM_X3_signAt : gi_okT false gm M_X3_signAt (gi_tab M_X3_signAt) [[], [], [], [260, 222, 27, 221], [], [], [163], [], [], [], [], []] = true := by decide +kernel
set_option maxRecDepth 20000 in
theorem okM_X3_firstFault : gi_okT false gm M_X3_firstFault (gi_tab M_X3_firstFault) [[], [], [], [], [], [], [160], [], [], [], [], [273, 276, 30, 274, 275], [277, 279, 30, 278], [], [], [], [], [], [], [], [], [], [], [], [], [], [160], []] = true := by decide +kernel
set_option maxRecDepth 20000 in
theorem okM_X3_stepBehind : gi_okT false gm M_X3_stepBehind (gi_tab M_X3_stepBehind) [[], [], [], [280, 282, 30, 281], [], [], [291, 293, 30, 292], [], [], [], [], [260, 222, 27, 221], [], [], [], [], [], [], [], [], [260, 222, 27, 221], [], [], [], [], [], [], [287, 289, 30, 288], [290, 247, 27, 246], [], [], [], [], [], [], [], [], [], [], [], [], [], [], [], [], [], [], [], []] = true := by decide +kernel
set_option maxRecDepth 20000 in
theorem okM_X3_stepOfFirst : gi_okT false gm M_X3_stepOfFirst (gi_tab M_X3_stepOfFirst) [[], [], [], [], [], [], [283, 285, 30, 284], [286, 219, 27, 218], [], [], [], [], [287, 289, 30, 288], [290, 247, 27, 246], [], [], [], [], []] = true := by decide +kernel
set_option maxRecDepth 20000 in
theorem okM_X3_stepOfSecond : gi_okT false gm M_X3_stepOfSecond (gi_tab M_X3_stepOfSecond) [[], [283, 285, 30, 284], [286, 219, 27, 218], [], [], [], [], [], [], [260, 222, 27, 221], [], [], [], [], []] = true := by decide +kernel
set_option maxRecDepth 20000 in
theorem okM_X3_lifeOf : gi_okT false gm M_X3_lifeOf (gi_tab M_X3_lifeOf) [[], [], [], []] = true := by decide +kernel
set_option maxRecDepth 20000 in
theorem okM_X3_buyerOf : gi_okT false gm M_X3_buyerOf (gi_tab M_X3_buyerOf) [[], [], [], []] = true := by decide +kernel
set_option maxRecDepth 20000 in
theorem okM_X4_init : gi_okT false gm M_X4_init (gi_tab M_X4_init) [[], [188, 44, 45], [], [], [120], [189], []] = true := by decide +kernel
set_option maxRecDepth 20000 in
theorem okM_X4_policyOf : gi_okT false gm M_X4_policyOf (gi_tab M_X4_policyOf) [[], [], [], [], [], []] = true := by decide +kernel
set_option maxRecDepth 20000 in
theorem okM_X4_holderIn : gi_okT false gm M_X4_holderIn (gi_tab M_X4_holderIn) [[], [], [], [], [], []] = true := by decide +kernel
set_option maxRecDepth 20000 in
theorem okM_X4_fitting : gi_okT false gm M_X4_fitting (gi_tab M_X4_fitting) [[], [538, 540, 32, 539], [], [], [], [], [], [64], [], [], [], [], [], [], [], [], [548, 550, 32, 549], [], [], [], [], [], []] = true := by decide +kernel
set_option maxRecDepth 20000 in
theorem okM_X4_everyWorld : gi_okT false gm M_X4_everyWorld (gi_tab M_X4_everyWorld) [[], [], [], [], [], [], [], [], [541, 543, 32, 542], [], [], [], [544, 322, 28, 320, 321], [], [], [73], [], [], [], [545, 547, 32, 546], [], [], [], [], [], [], [], [], [], [], []] = true := by decide +kernel
set_option maxRecDepth 20000 in
theorem okM_X4_worldsThatSay : gi_okT false gm M_X4_worldsThatSay (gi_tab M_X4_worldsThatSay) [[], [84], [], [], [], [], [86], [], [], [], [], [], [], [551, 425, 28, 423, 424], [], [], [], [], [], [], [], [], [], [], [], [], [], [], [], [], [], [], [], [], [], [552, 554, 32, 553], [], [], [88], [], [], [], [], [], [], [], [], [], [], [], [], []] = true := by decide +kernel
set_option maxRecDepth 20000 in
theorem okM_X4_moreIn : gi_okT false gm M_X4_moreIn (gi_tab M_X4_moreIn) [[], [541, 543, 32, 542], [], [], [], [], [], [544, 322, 28, 320, 321], [], [], [76], [], [], [], [], [], [], [], [545, 547, 32, 546], [], [], [], [79], [], [], [], [], [73], [], [], [], [], [], [79], [], [], [], [], [], []] = true := by decide +kernel
set_option maxRecDepth 20000 in
theorem okM_X4_movedIn : gi_okT false gm M_X4_movedIn (gi_tab M_X4_movedIn) [[], [], [], [], [], [], [], [], [], [], [], [], [], [], [], [], [], [], [541, 543, 32, 542], [], [], [], [], [], [], []] = true := by decide +kernel
set_option maxRecDepth 20000 in
theorem okM_X4_mostLeft : gi_okT false gm M_X4_mostLeft (gi_tab M_X4_mostLeft) [[], [], [], [], [189], [], [], [], [189], [], [], [], [], [], [], [], [], [551, 425, 28, 423, 424], [], [], [], [], [], [], [], [], [], [], [], [], [], [], [], [], [], [], [], [], [], [552, 554, 32, 553], [], [], [], [], [], [], [], [189], [], [], [], [574, 222, 27, 221], [], [], [189], [], [], [], [], [], [], [], [], [189], [], [], [575, 577, 36, 576], [], [], [], [], []] = true := by decide +kernel
set_option maxRecDepth 20000 in
theorem okM_X5_init : gi_okT false gm M_X5_init (gi_tab M_X5_init) [[], [43, 44, 45], [], [46, 47, 28], [], [48, 50, 28, 49], [194], [], [121, 122, 29], [], [123, 125, 29, 124], [195], [], [154, 155, 30], [], [156, 158, 30, 157], [196], [], [169, 170, 31], [], [171, 173, 31, 172], [197], [], [183, 184, 32], [], [185, 187, 32, 186], [198], [], [], [46], [199], []] = true := by decide +kernel
set_option maxRecDepth 20000 in
theorem okM_X5_odds : gi_okT false gm M_X5_odds (gi_tab M_X5_odds) [[], [217, 219, 27, 218], [], [], [], [], [], [], [220, 222, 27, 221], [], [], [], [], [194], [67], [], [], [], [], [194], [67], [], [], [], [], []] = true := by decide +kernel
set_option maxRecDepth 20000 in
theorem okM_X5_heir : gi_okT false gm M_X5_heir (gi_tab M_X5_heir) [[], [217, 219, 27, 218], [], [], [], [], [194], [], [227, 230, 28, 228, 229], [], [], [], [], [194], [], [58], [], [], [], [], [], [], [58], [], [194], [231, 234, 28, 232, 233], []] = true := by decide +kernel
set_option maxRecDepth 20000 in
theorem okM_X5_cash : gi_okT false gm M_X5_cash (gi_tab M_X5_cash) [[], [245, 247, 27, 246], [], [], [], [], [], [], [220, 222, 27, 221], [], [], [], [], [194], [71], [], [], [], [], [194], [71], [], [], [], [], []] = true := by decide +kernel
set_option maxRecDepth 20000 in
theorem okM_X5_funds : gi_okT false gm M_X5_funds (gi_tab M_X5_funds) [[], [], [], [220, 222, 27, 221], [], [], [], [], [194], [56], [], [], [194], [], [56], [], []] = true := by decide +kernel
set_option maxRecDepth 20000 in
theorem okM_X5_say : gi_okT false gm M_X5_say (gi_tab M_X5_say) [[], [], [], [220, 222, 27, 221], [], [], [], [], [196], [], [256, 259, 30, 257, 258], [], [], [196], [162], [], [], []] = true := by decide +kernel
set_option maxRecDepth 20000 in
theorem okM_X5_wipe : gi_okT false gm M_X5_wipe (gi_tab M_X5_wipe) [[], [196], [162], [], [], [196], [], [162], [], []] = true := by decide +kernel
set_option maxRecDepth 20000 in
theorem okM_X5_fault : gi_okT false gm M_X5_fault (gi_tab M_X5_fault) [[], [196], [269, 272, 30, 270, 271], []] = true := by decide +kernel
set_option maxRecDepth 20000 in
theorem okM_X5_judge : gi_okT false gm M_X5_judge (gi_tab M_X5_judge) [[], [], [], [220, 222, 27, 221], [], [], [], [], [196], [269, 272, 30, 270, 271], [], [], [], [], [], [195], [], [194], [], [196], [298, 301, 29, 299, 300], [], [], [], [], [195], [134], [], [], [195], [136], []] = true := by decide +kernel
set_option maxRecDepth 20000 in
theorem okM_X5_done : gi_okT false gm M_X5_done (gi_tab M_X5_done) [[], [196], [269, 272, 30, 270, 271], [], [], [], [195], [], [194], [], [196], [298, 301, 29, 299, 300], [], [], [], [], [194], [], [195], [130], [387, 305, 28, 303, 304], [], [196], [], [162], [], [195], [132], []] = true := by decide +kernel
set_option maxRecDepth 20000 in
theorem okM_X5_behind : gi_okT false gm M_X5_behind (gi_tab M_X5_behind) [[], [], [], [220, 222, 27, 221], [], [], [], [], [196], [269, 272, 30, 270, 271], [], [], [], [195], [], [194], [], [196], [298, 301, 29, 299, 300], [], [], [], [], [245, 247, 27, 246], [], [], [195], [130], [71], [], [], [], [], [], [], [195], [130], [56], [], [], [195], [130], [53], [], [], [195], [138], [], [], [195], [140], []] = true := by decide +kernel
set_option maxRecDepth 20000 in
theorem okM_X5_policy : gi_okT false gm M_X5_policy (gi_tab M_X5_policy) [[], [194], [], [396, 322, 28, 320, 321], [], [], [], [], [], [], [194], [74], [], [], [], [], [194], [77], [], [], [], [], [194], [80], [], [], [], [], [194], [82], [], [], [], [], []] = true := by decide +kernel
set_option maxRecDepth 20000 in
theorem okM_X5_price : gi_okT false gm M_X5_price (gi_tab M_X5_price) [[], [217, 219, 27, 218], [], [], [], [], [], [], [220, 222, 27, 221], [], [], [], [], [220, 222, 27, 221], [], [], [], [], [194], [], [227, 230, 28, 228, 229], [], [], [], [], [], [], [], [194], [67], [], [], [], [401, 367, 27, 366], []] = true := by decide +kernel
set_option maxRecDepth 20000 in
theorem okM_X5_chance : gi_okT false gm M_X5_chance (gi_tab M_X5_chance) [[], [217, 219, 27, 218], [], [406], [], [], [], [], [220, 222, 27, 221], [], [], [407, 409, 27, 408], [], [410], [], [], [194], [], [227, 230, 28, 228, 229], [], [411], [], [], [194], [67], [], [], [], [372, 374, 27, 373], [368], [], [369, 371, 27, 370], [], [412, 414, 27, 413], []] = true := by decide +kernel
set_option maxRecDepth 20000 in
theorem okM_X5_gains : gi_okT false gm M_X5_gains (gi_tab M_X5_gains) [[], [245, 247, 27, 246], [], [], [217, 219, 27, 218], [], [], [], [], [194], [], [], [422, 425, 28, 423, 424], []] = true := by decide +kernel
set_option maxRecDepth 20000 in
theorem okM_X5_worth : gi_okT false gm M_X5_worth (gi_tab M_X5_worth) [[], [245, 247, 27, 246], [], [], [], [], [], [], [], [], [], [], [], [], [], [194], [], [], [422, 425, 28, 423, 424], [], [], [], [], [], [], [], [], [], [], [], []] = true := by decide +kernel
set_option maxRecDepth 20000 in
theorem okM_X5_best : gi_okT false gm M_X5_best (gi_tab M_X5_best) [[], [], [], [], [442, 444, 27, 443], [], [], [], [], [407, 409, 27, 408], [], [], [], [], [], [446], [], [], [], [], [], [197], [], [194], [], [], [], [447, 450, 31, 448, 449], [], [197], [], [197], [], [194], [71], [], [], [459, 462, 31, 460, 461], [471, 470, 31, 468, 469], [368], [], [369, 371, 27, 370], [], [412, 414, 27, 413], []] = true := by decide +kernel
set_option maxRecDepth 20000 in
theorem okM_X5_buys : gi_okT false gm M_X5_buys (gi_tab M_X5_buys) [[], [], [], [], [442, 444, 27, 443], [], [], [], [], [], [], [197], [], [194], [], [], [], [447, 450, 31, 448, 449], [], [197], [], [194], [71], [], [], [459, 462, 31, 460, 461], []] = true := by decide +kernel
set_option maxRecDepth 20000 in
theorem okM_X5_voids : gi_okT false gm M_X5_voids (gi_tab M_X5_voids) [[], [], [], [220, 222, 27, 221], [], [], [], [], [220, 222, 27, 221], [], [], [], [], [], [], [], [], [], [], [], [], [], [], [], [], [], [194], [], [194], [], [], [480, 429, 28, 427, 428], [], [481, 484, 28, 482, 483], [], [], [], [], [], [], [], [], [], [485, 237, 34, 236], [], [], []] = true := by decide +kernel
set_option maxRecDepth 20000 in
theorem okM_X5_ruin : gi_okT false gm M_X5_ruin (gi_tab M_X5_ruin) [[], [], [], [220, 222, 27, 221], [], [], [], [], [220, 222, 27, 221], [], [], [407, 409, 27, 408], [], [410], [], [], [], [], [], [194], [], [490, 493, 28, 491, 492], [368], [], [369, 371, 27, 370], [], [412, 414, 27, 413], [], [], [], [], [], [], [], [], [], [194], [], [500, 347, 28, 345, 346], [], [194], [56], [], [], [], [194], [], [], [501, 504, 28, 502, 503], [], [], [], [], [], [368], [], [], [], [369, 371, 27, 370], [], [412, 414, 27, 413], []] = true := by decide +kernel
set_option maxRecDepth 20000 in
theorem okM_X5_tells : gi_okT false gm M_X5_tells (gi_tab M_X5_tells) [[], [], [], [220, 222, 27, 221], [], [], [], [], [220, 222, 27, 221], [], [], [], [], [220, 222, 27, 221], [], [], [], [], [], [], [], [], [], [], [], [], [], [], [], [401, 367, 27, 366], [], [], [], [], [], [], [], [], [], [], [], []] = true := by decide +kernel
set_option maxRecDepth 20000 in
theorem okM_X5_parts : gi_okT false gm M_X5_parts (gi_tab M_X5_parts) [[], [], [], [], [], [], [], [], [], [], [], [], [], [], [], [], [515, 517, 27, 516], [], [], [], [], [], [], [], []] = true := by decide +kernel
set_option maxRecDepth 20000 in
theorem okM_X5_seen : gi_okT false gm M_X5_seen (gi_tab M_X5_seen) [[], [245, 247, 27, 246], [], [], [217, 219, 27, 218], [], [], [], [], [], [], [220, 222, 27, 221], [], [], [], [], [194], [], [], [], [522, 525, 28, 523, 524], [], [], [194], [65], [], [], []] = true := by decide +kernel
set_option maxRecDepth 20000 in
theorem okM_X5_forget : gi_okT false gm M_X5_forget (gi_tab M_X5_forget) [[], [194], [65], [], [], [194], [], [65], [], []] = true := by decide +kernel
set_option maxRecDepth 20000 in
theorem okM_X5_liars : gi_okT false gm M_X5_liars (gi_tab M_X5_liars) [[], [], [], [220, 222, 27, 221], [], [], [], [], [198], [], [194], [534, 537, 32, 535, 536], [], [], [], [], [555, 557, 37, 556], [], [], [198], [], [561, 564, 32, 562, 563], [], [], [], [], [], [], [], [], [], [], []] = true := by decide +kernel
set_option maxRecDepth 20000 in
theorem okM_X5_ask : gi_okT false gm M_X5_ask (gi_tab M_X5_ask) [[], [], [], [220, 222, 27, 221], [], [], [], [], [198], [], [194], [534, 537, 32, 535, 536], [], [], [], [], [], [], [], [], [], [569], [], [], [], [], [], [], [], [], [], [], [], [], [198], [], [194], [], [], [], [570, 573, 32, 571, 572], [], [], [], [], [], [], [], [], [], [], [], [], [], [], [], [], [], [], [], [], [], []] = true := by decide +kernel
set_option maxRecDepth 20000 in
theorem okM_X5_pass : gi_okT false gm M_X5_pass (gi_tab M_X5_pass) [[], [582, 584, 27, 583], [], [], [], [], [], [], [], [], [], [], [], [194], [], [396, 322, 28, 320, 321], [], [], [], [194], [77], [], [], [586, 588, 27, 587], [], [], [], [], [], [], [], [], [194], [74], [], [], [], [], [], [], [], []] = true := by decide +kernel
set_option maxRecDepth 20000 in
theorem okM_X5_bets : gi_okT false gm M_X5_bets (gi_tab M_X5_bets) [[], [], [], [220, 222, 27, 221], [], [], [], [], [220, 222, 27, 221], [], [], [], [], [220, 222, 27, 221], [], [], [407, 409, 27, 408], [], [410], [], [], [], [593, 595, 27, 594], [], [], [], [369, 371, 27, 370], [], [], [], [], [], [], [], [], [369, 371, 27, 370], [], [], [], [368], [], [369, 371, 27, 370], [], [412, 414, 27, 413], []] = true := by decide +kernel
set_option maxRecDepth 20000 in
theorem okM_X5_year : gi_okT false gm M_X5_year (gi_tab M_X5_year) [[], [], [], [220, 222, 27, 221], [], [], [], [], [220, 222, 27, 221], [], [], [], [], [220, 222, 27, 221], [], [], [], [], [195], [], [194], [], [], [600, 603, 29, 601, 602], [], [], [], [195], [130], [606, 609, 28, 607, 608], [], [], [195], [130], [56], [], [], [195], [130], [231, 234, 28, 232, 233], []] = true := by decide +kernel
set_option maxRecDepth 20000 in
theorem okM_X5_image : gi_okT false gm M_X5_image (gi_tab M_X5_image) [[], [], [], [220, 222, 27, 221], [], [], [], [], [199], [], [], [], [], [199], [], [46, 47, 28], [], [48, 50, 28, 49], [], [], [199], [], [], [], [194], [387, 305, 28, 303, 304], [], []] = true := by decide +kernel
set_option maxRecDepth 20000 in
theorem okM_X5_restore : gi_okT false gm M_X5_restore (gi_tab M_X5_restore) [[], [], [], [220, 222, 27, 221], [], [], [], [], [199], [], [], [], [], [], [], [], [], [194], [], [387, 305, 28, 303, 304], [], []] = true := by decide +kernel
set_option maxRecDepth 20000 in
theorem okM_X5_told : gi_okT false gm M_X5_told (gi_tab M_X5_told) [[], [], [], [245, 247, 27, 246], [], [], [194], [71], [], [], [], [], [], [], [], [], [217, 219, 27, 218], [], [], [194], [67], [], [], [], [], [], [], [], [], [196], [162], [], [], [194], [53], [], [], [194], [56], [], [], [194], [65], [], [], [194], [58], [], [], [194], [60], [], [], [194], [62], [], [], []] = true := by decide +kernel
set_option maxRecDepth 20000 in
theorem okM_X5_isWithin : gi_okT false gm M_X5_isWithin (gi_tab M_X5_isWithin) [[], [], [], [], [], [], [], [], [], []] = true := by decide +kernel
set_option maxRecDepth 20000 in
theorem okM_X5_isLife : gi_okT false gm M_X5_isLife (gi_tab M_X5_isLife) [[], [], [], [220, 222, 27, 221], []] = true := by decide +kernel
set_option maxRecDepth 20000 in
theorem okM_X5_isBuyer : gi_okT false gm M_X5_isBuyer (gi_tab M_X5_isBuyer) [[], [], [], [220, 222, 27, 221], []] = true := by decide +kernel
set_option maxRecDepth 20000 in
theorem okM_X5_isPart : gi_okT false gm M_X5_isPart (gi_tab M_X5_isPart) [[], [], [], [220, 222, 27, 221], []] = true := by decide +kernel
set_option maxRecDepth 20000 in
theorem okM_X5_refusalOfOffers : gi_okT false gm M_X5_refusalOfOffers (gi_tab M_X5_refusalOfOffers) [[], [245, 247, 27, 246], [], [], [], [], [], [445], [220, 222, 27, 221], [], [], [], [445], [220, 222, 27, 221], [], [], [], [], [220, 222, 27, 221], [], [], [], [], []] = true := by decide +kernel
set_option maxRecDepth 20000 in
theorem okM_X5_areWants : gi_okT false gm M_X5_areWants (gi_tab M_X5_areWants) [[], [], [], [220, 222, 27, 221], [], [], [], [], [], [], [], [], [], [], [], [585, 454, 27, 453], [], [], [], [], [], [], [], []] = true := by decide +kernel
set_option maxRecDepth 20000 in
theorem okM_X5_digitOf : gi_okT false gm M_X5_digitOf (gi_tab M_X5_digitOf) [[], [], [], [], [], [], [], [], [], [], [], [], [], [], [], [], [], [], []] = true := by decide +kernel
set_option maxRecDepth 20000 in
theorem okM_X5_power : gi_okT false gm M_X5_power (gi_tab M_X5_power) [[], [], [], [], [], [], [], [], [], [], [], [], [], [], []] = true := by decide +kernel
set_option maxRecDepth 20000 in
theorem okM_X5_choices : gi_okT false gm M_X5_choices (gi_tab M_X5_choices) [[], [], [], [], [], [], [], [], [], [], [], [], [], [], [], [], [], [], [], [], [], [], []] = true := by decide +kernel
set_option maxRecDepth 20000 in
theorem okM_X5_endings : gi_okT false gm M_X5_endings (gi_tab M_X5_endings) [[368], [], [369, 371, 27, 370], [], [], [], [], [], [369, 371, 27, 370], [], []] = true := by decide +kernel
set_option maxRecDepth 20000 in
theorem okM_X5_priceOf : gi_okT false gm M_X5_priceOf (gi_tab M_X5_priceOf) [[368], [], [369, 371, 27, 370], [], [], [], [], [], [], [], [], [], [], [], [372, 374, 27, 373], [], [], [], [], [], [], [], [], []] = true := by decide +kernel
set_option maxRecDepth 20000 in
theorem okM_X5_tellsApart : gi_okT false gm M_X5_tellsApart (gi_tab M_X5_tellsApart) [[], [], [], [401, 367, 27, 366], [], [], [], [], [], [], [], [], [], [401, 367, 27, 366], [], [], [], [], [], [], [], [], [], [], [], []] = true := by decide +kernel
set_option maxRecDepth 20000 in
theorem okM_X5_lowest : gi_okT false gm M_X5_lowest (gi_tab M_X5_lowest) [[], [], [415, 417, 27, 416], [], [], [], [], [], [], [], [], [], [], [], [], [], [], [], [], [], [], []] = true := by decide +kernel
set_option maxRecDepth 20000 in
theorem okM_X5_commonDivisor : gi_okT false gm M_X5_commonDivisor (gi_tab M_X5_commonDivisor) [[], [], [], [], [], [], [], [], [], [], [], [], [], [], [], [], [], [], [], [], [], [], [], [], []] = true := by decide +kernel
set_option maxRecDepth 20000 in
theorem okM_X5_onlyOneWho : gi_okT false gm M_X5_onlyOneWho (gi_tab M_X5_onlyOneWho) [[], [], [], [], [], [], [], [], [], [], [585, 454, 27, 453], [], [], [], [], [], [], [], [], [], [], [], [], []] = true := by decide +kernel
set_option maxRecDepth 20000 in
theorem okM_J6_bitCount_0f7a4 : gi_okT false gm M_J6_bitCount_0f7a4 (gi_tab M_J6_bitCount_0f7a4) [[], [], [], [], [238], [], [], [], [], [239], [], [], [], [], [239], [], [], [], [], [], [], [], [], [240], [], [], [], [], [], [], [], [], [], [], [], [], [], [], [], [], [], []] = true := by decide +kernel
set_option maxRecDepth 20000 in
theorem okM_J13_bitCount_95d88 : gi_okT false gm M_J13_bitCount_95d88 (gi_tab M_J13_bitCount_95d88) [[], [], [], [], [558], [], [], [], [], [559], [], [], [], [], [559], [], [], [], [], [], [], [], [], [560], [], [], [], [], [], [], [], [], [], [], [], [], [], [], [], [], [], [], [], [], [], [], [], [], []] = true := by decide +kernel
set_option maxRecDepth 20000 in
theorem okM_J9_max_7cf53 : gi_okT false gm M_J9_max_7cf53 (gi_tab M_J9_max_7cf53) [[], [], [], [], [], [], []] = true := by decide +kernel
set_option maxRecDepth 20000 in
theorem okM_J9_min_7cf53 : gi_okT false gm M_J9_min_7cf53 (gi_tab M_J9_min_7cf53) [[], [], [], [], [], [], []] = true := by decide +kernel

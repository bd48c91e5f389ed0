def xp_X4_init : List (List Nat) := [[], [217, 201, 72, 202], []]
set_option maxRecDepth 100000 in
theorem k_X4_init : xall xm_X4_init xc_X4_init xp_X4_init = true := by decide +kernel
theorem o_X4_init : ∀ q ∈ xm_X4_init.2, ∃ p, xchk xm_X4_init q p = true := xall_mem k_X4_init
def xp_X4_showing : List (List Nat) := [[], [], [], [], [], [], [], [], [], [], [669, 1383, 218, 670, 72, 671], []]
set_option maxRecDepth 100000 in
theorem k_X4_showing : xall xm_X4_showing xc_X4_showing xp_X4_showing = true := by decide +kernel
theorem o_X4_showing : ∀ q ∈ xm_X4_showing.2, ∃ p, xchk xm_X4_showing q p = true := xall_mem k_X4_showing
def xp_X4_fee : List (List Nat) := [[], []]
set_option maxRecDepth 100000 in
theorem k_X4_fee : xall xm_X4_fee xc_X4_fee xp_X4_fee = true := by decide +kernel
theorem o_X4_fee : ∀ q ∈ xm_X4_fee.2, ∃ p, xchk xm_X4_fee q p = true := xall_mem k_X4_fee
def xp_X5_init : List (List Nat) := [[], [158, 90, 91], [], [], [170], [161], [], [], [122], [162], []]
set_option maxRecDepth 100000 in
theorem k_X5_init : xall xm_X5_init xc_X5_init xp_X5_init = true := by decide +kernel
theorem o_X5_init : ∀ q ∈ xm_X5_init.2, ∃ p, xchk xm_X5_init q p = true := xall_mem k_X5_init
def xp_X5_guess : List (List Nat) := [[], [], [159], [], [], [], [], [], [], [161], [], [], [], [], [847, 848, 67, 849], [], [], [161], [], [], [], [], [], [159], [], [], [159], [], [], []]
set_option maxRecDepth 100000 in
theorem k_X5_guess : xall xm_X5_guess xc_X5_guess xp_X5_guess = true := by decide +kernel
theorem o_X5_guess : ∀ q ∈ xm_X5_guess.2, ∃ p, xchk xm_X5_guess q p = true := xall_mem k_X5_guess
def xp_X5_showing : List (List Nat) := [[], [282], [], [], [], [], [], [], [], [], [853, 660, 658, 679, 661, 658, 69, 679, 660, 658, 679, 662, 663, 71, 664, 660, 658, 679, 666, 667, 74, 668, 660, 658, 679, 672, 670, 72, 671, 660, 658, 679, 659, 658, 69, 679, 660, 658, 679, 673, 674, 70, 675], []]
set_option maxRecDepth 100000 in
theorem k_X5_showing : xall xm_X5_showing xc_X5_showing xp_X5_showing = true := by decide +kernel
theorem o_X5_showing : ∀ q ∈ xm_X5_showing.2, ∃ p, xchk xm_X5_showing q p = true := xall_mem k_X5_showing
def xp_X5_fitsReadings : List (List Nat) := [[], [], [], [], [292], [], [], [314], [], [], [], [], [], [], [], [316], [], [], [850, 851, 67, 852], [], [318], [], [], [], [], [], [], [], [], []]
set_option maxRecDepth 100000 in
theorem k_X5_fitsReadings : xall xm_X5_fitsReadings xc_X5_fitsReadings xp_X5_fitsReadings = true := by decide +kernel
theorem o_X5_fitsReadings : ∀ q ∈ xm_X5_fitsReadings.2, ∃ p, xchk xm_X5_fitsReadings q p = true := xall_mem k_X5_fitsReadings
def xp_X5_kindBits : List (List Nat) := [[], [], [], [], [], [], [], [], [161], [], [], [], [], [], [], [], [], [], [], [], [], [], [], []]
set_option maxRecDepth 100000 in
theorem k_X5_kindBits : xall xm_X5_kindBits xc_X5_kindBits xp_X5_kindBits = true := by decide +kernel
theorem o_X5_kindBits : ∀ q ∈ xm_X5_kindBits.2, ∃ p, xchk xm_X5_kindBits q p = true := xall_mem k_X5_kindBits
def xp_X5_bestEvening : List (List Nat) := [[], [159], [], [], [], [], [], [], [159], [], [], [], [], [], [], [], [], [], [], [], [321], [226], [], [], [866, 868, 24, 67, 869], [], [], [], [], [], [], [], [], [], [], [], [321], [226], [], [], []]
set_option maxRecDepth 100000 in
theorem k_X5_bestEvening : xall xm_X5_bestEvening xc_X5_bestEvening xp_X5_bestEvening = true := by decide +kernel
theorem o_X5_bestEvening : ∀ q ∈ xm_X5_bestEvening.2, ∃ p, xchk xm_X5_bestEvening q p = true := xall_mem k_X5_bestEvening
def xp_X5_mostAlike : List (List Nat) := [[], [162], [], [870, 279, 76, 280], [], [], [], [], [], [], [], [], [161], [], [], [], [], [], [], [850, 851, 67, 852], [], [], [162], [], [], [], [], [], [], [], [], [162], [], [], [871, 730, 83, 731], [], [], [], [], []]
set_option maxRecDepth 100000 in
theorem k_X5_mostAlike : xall xm_X5_mostAlike xc_X5_mostAlike xp_X5_mostAlike = true := by decide +kernel
theorem o_X5_mostAlike : ∀ q ∈ xm_X5_mostAlike.2, ∃ p, xchk xm_X5_mostAlike q p = true := xall_mem k_X5_mostAlike
def xp_X6_init : List (List Nat) := [[], [203, 187, 70, 188], []]
set_option maxRecDepth 100000 in
theorem k_X6_init : xall xm_X6_init xc_X6_init xp_X6_init = true := by decide +kernel
theorem o_X6_init : ∀ q ∈ xm_X6_init.2, ∃ p, xchk xm_X6_init q p = true := xall_mem k_X6_init
def xp_X6_showing : List (List Nat) := [[], []]
set_option maxRecDepth 100000 in
theorem k_X6_showing : xall xm_X6_showing xc_X6_showing xp_X6_showing = true := by decide +kernel
theorem o_X6_showing : ∀ q ∈ xm_X6_showing.2, ∃ p, xchk xm_X6_showing q p = true := xall_mem k_X6_showing
def xp_X6_fee : List (List Nat) := [[], [], [603, 604, 204, 586, 69, 607, 190], [], [], []]
set_option maxRecDepth 100000 in
theorem k_X6_fee : xall xm_X6_fee xc_X6_fee xp_X6_fee = true := by decide +kernel
theorem o_X6_fee : ∀ q ∈ xm_X6_fee.2, ∃ p, xchk xm_X6_fee q p = true := xall_mem k_X6_fee
def xp_X7_init : List (List Nat) := [[], [182, 90, 91], []]
set_option maxRecDepth 100000 in
theorem k_X7_init : xall xm_X7_init xc_X7_init xp_X7_init = true := by decide +kernel
theorem o_X7_init : ∀ q ∈ xm_X7_init.2, ∃ p, xchk xm_X7_init q p = true := xall_mem k_X7_init
def xp_X7_showing : List (List Nat) := [[], [], [], [], [680, 677, 83, 678], []]
set_option maxRecDepth 100000 in
theorem k_X7_showing : xall xm_X7_showing xc_X7_showing xp_X7_showing = true := by decide +kernel
theorem o_X7_showing : ∀ q ∈ xm_X7_showing.2, ∃ p, xchk xm_X7_showing q p = true := xall_mem k_X7_showing
def xp_X7_fee : List (List Nat) := [[], []]
set_option maxRecDepth 100000 in
theorem k_X7_fee : xall xm_X7_fee xc_X7_fee xp_X7_fee = true := by decide +kernel
theorem o_X7_fee : ∀ q ∈ xm_X7_fee.2, ∃ p, xchk xm_X7_fee q p = true := xall_mem k_X7_fee
def xp_X7_fits : List (List Nat) := [[], [], [], [], [], [], []]
set_option maxRecDepth 100000 in
theorem k_X7_fits : xall xm_X7_fits xc_X7_fits xp_X7_fits = true := by decide +kernel
theorem o_X7_fits : ∀ q ∈ xm_X7_fits.2, ∃ p, xchk xm_X7_fits q p = true := xall_mem k_X7_fits
def xp_X8_init : List (List Nat) := [[], [99, 90, 91], [], [], [121], [104], [], [], [122], [107], []]
set_option maxRecDepth 100000 in
theorem k_X8_init : xall xm_X8_init xc_X8_init xp_X8_init = true := by decide +kernel
theorem o_X8_init : ∀ q ∈ xm_X8_init.2, ∃ p, xchk xm_X8_init q p = true := xall_mem k_X8_init
def xp_X8_add : List (List Nat) := [[], [104], [], [102], [], [], [], [], [102], [], [], [102], []]
set_option maxRecDepth 100000 in
theorem k_X8_add : xall xm_X8_add xc_X8_add xp_X8_add = true := by decide +kernel
theorem o_X8_add : ∀ q ∈ xm_X8_add.2, ∃ p, xchk xm_X8_add q p = true := xall_mem k_X8_add
def xp_X8_readInto : List (List Nat) := [[], [], [105], [], [449, 267, 268, 68, 269], [], [450, 452, 2, 65, 453], [], [458], [459, 461, 4, 65, 462], [], [], [], [], [450, 452, 2, 65, 453], [], [511, 513, 5, 65, 514], [], [], [], [], [], [], [106], [], [], [], [], [], [], [515, 517, 6, 65, 518], [], [], [], [], [], [], []]
set_option maxRecDepth 100000 in
theorem k_X8_readInto : xall xm_X8_readInto xc_X8_readInto xp_X8_readInto = true := by decide +kernel
theorem o_X8_readInto : ∀ q ∈ xm_X8_readInto.2, ∃ p, xchk xm_X8_readInto q p = true := xall_mem k_X8_readInto
def xp_X8_readItem : List (List Nat) := [[], [519], [459, 461, 4, 65, 462], [], [], [286], [], [], [], [], [520, 522, 7, 65, 523], [], [], [], [], [], [], [534], [459, 461, 4, 65, 462], [], [], [289], [], [], [], [], [535, 537, 10, 65, 538], [], [], [], [], [], [], [540], [459, 461, 4, 65, 462], [], [], [], [541, 543, 11, 65, 544], [], [], [], [], []]
set_option maxRecDepth 100000 in
theorem k_X8_readItem : xall xm_X8_readItem xc_X8_readItem xp_X8_readItem = true := by decide +kernel
theorem o_X8_readItem : ∀ q ∈ xm_X8_readItem.2, ∃ p, xchk xm_X8_readItem q p = true := xall_mem k_X8_readItem
def xp_X8_readView : List (List Nat) := [[], [450, 452, 2, 65, 453], [], [], [], [], [524, 526, 8, 65, 527], [], [], [], [], [], [524, 526, 8, 65, 527], [], [], [], [], [], [524, 526, 8, 65, 527], [], [], [], [], [], [524, 526, 8, 65, 527], [], [], [511, 513, 5, 65, 514], [], [], [], [], [], [107], [], [], [], [107], [], [], [], [107], [], [], [], [107], [], [], [533, 407, 408, 68, 409], [], []]
set_option maxRecDepth 100000 in
theorem k_X8_readView : xall xm_X8_readView xc_X8_readView xp_X8_readView = true := by decide +kernel
theorem o_X8_readView : ∀ q ∈ xm_X8_readView.2, ∃ p, xchk xm_X8_readView q p = true := xall_mem k_X8_readView
def xp_X8_readRenter : List (List Nat) := [[], [450, 452, 2, 65, 453], [], [], [], [], [524, 526, 8, 65, 527], [], [], [], [], [], [524, 526, 8, 65, 527], [], [], [], [], [], [524, 526, 8, 65, 527], [], [], [511, 513, 5, 65, 514], [], [], [], [], [], [107], [], [], [], [107], [], [], [], [107], [], [], [539, 418, 419, 68, 420], [], []]
set_option maxRecDepth 100000 in
theorem k_X8_readRenter : xall xm_X8_readRenter xc_X8_readRenter xp_X8_readRenter = true := by decide +kernel
theorem o_X8_readRenter : ∀ q ∈ xm_X8_readRenter.2, ∃ p, xchk xm_X8_readRenter q p = true := xall_mem k_X8_readRenter
def xp_X8_readThing : List (List Nat) := [[], [450, 452, 2, 65, 453], [], [], [], [], [286], [], [], [524, 526, 8, 65, 527], [], [], [], [], [], [524, 526, 8, 65, 527], [], [], [511, 513, 5, 65, 514], [], [], [], [], [306], [], [107], [], [], [], [], [], [], [107], [], [], [], [], [], [], []]
set_option maxRecDepth 100000 in
theorem k_X8_readThing : xall xm_X8_readThing xc_X8_readThing xp_X8_readThing = true := by decide +kernel
theorem o_X8_readThing : ∀ q ∈ xm_X8_readThing.2, ∃ p, xchk xm_X8_readThing q p = true := xall_mem k_X8_readThing
def xp_X8_passMark : List (List Nat) := [[], [106], [], [], [], [], [], [450, 452, 2, 65, 453], [], []]
set_option maxRecDepth 100000 in
theorem k_X8_passMark : xall xm_X8_passMark xc_X8_passMark xp_X8_passMark = true := by decide +kernel
theorem o_X8_passMark : ∀ q ∈ xm_X8_passMark.2, ∃ p, xchk xm_X8_passMark q p = true := xall_mem k_X8_passMark
def xp_X8_passNumber : List (List Nat) := [[], [528, 530, 9, 65, 531], [], [], [], [], [], [], [], [532, 397, 64, 398], [], [], [], [], [107], [], [], [], [], [450, 452, 2, 65, 453], [], []]
set_option maxRecDepth 100000 in
theorem k_X8_passNumber : xall xm_X8_passNumber xc_X8_passNumber xp_X8_passNumber = true := by decide +kernel
theorem o_X8_passNumber : ∀ q ∈ xm_X8_passNumber.2, ∃ p, xchk xm_X8_passNumber q p = true := xall_mem k_X8_passNumber
def xp_X8_numberMet : List (List Nat) := [[], [106], [], [], [], [105], [], [101], [], [], [], [], [], [], [], [], [101], [], [], [], [105], [], [], [], [], [], [104], [], [], [], [], [], [], [], [], [], []]
set_option maxRecDepth 100000 in
theorem k_X8_numberMet : xall xm_X8_numberMet xc_X8_numberMet xp_X8_numberMet = true := by decide +kernel
theorem o_X8_numberMet : ∀ q ∈ xm_X8_numberMet.2, ∃ p, xchk xm_X8_numberMet q p = true := xall_mem k_X8_numberMet
def xp_X8_isWord : List (List Nat) := [[], [106], [], [], [], [105], [], [101], [], [], [463, 464, 465, 78, 466], [], [], [], [], [], [], [], [463, 464, 465, 78, 466], [], [], [104], [], [101], [], [], [], [], [], [473, 474, 475, 78, 476], [], [], [], [], [], [], []]
set_option maxRecDepth 100000 in
theorem k_X8_isWord : xall xm_X8_isWord xc_X8_isWord xp_X8_isWord = true := by decide +kernel
theorem o_X8_isWord : ∀ q ∈ xm_X8_isWord.2, ∃ p, xchk xm_X8_isWord q p = true := xall_mem k_X8_isWord
def xp_X8_step : List (List Nat) := [[], [], [105], [101], [], [101], [], [102], [], [], [104], [], [101], [], [], [], [], [], [101], [], [], [101], [], [], [], [], [101], [454, 456, 3, 65, 457], [106], [], [], [106], [], [], [101], [], [], [101], [], [], [105], [], [106], [], [], [], [106], [], [], [], [105], [], [102], [], [], [], [105], [454, 456, 3, 65, 457], [], [106], [], [], [], [105], [], [], [105], [], []]
set_option maxRecDepth 100000 in
theorem k_X8_step : xall xm_X8_step xc_X8_step xp_X8_step = true := by decide +kernel
theorem o_X8_step : ∀ q ∈ xm_X8_step.2, ∃ p, xchk xm_X8_step q p = true := xall_mem k_X8_step
def xp_X8_sortAt : List (List Nat) := [[], [], [102], [], [], [], [], [104], [], [], [], [], [], [], [], [], [], [], [], [], [], [], [], [], [], [], [], [], [], [], [], [], [], []]
set_option maxRecDepth 100000 in
theorem k_X8_sortAt : xall xm_X8_sortAt xc_X8_sortAt xp_X8_sortAt = true := by decide +kernel
theorem o_X8_sortAt : ∀ q ∈ xm_X8_sortAt.2, ∃ p, xchk xm_X8_sortAt q p = true := xall_mem k_X8_sortAt
def xp_X9_init : List (List Nat) := [[], [175, 90, 91], [], [], [176, 177], [], [], [176, 178, 69], [], [179, 180, 69, 181], [], [], [], [184, 185, 70], [], [186, 187, 70, 188], [], [], [], [191, 192, 71], [], [193, 194, 71, 195], [], [], [], [198, 199, 72], [], [200, 201, 72, 202], [], [], [], [205, 206, 73], [], [207, 208, 73, 209], [], [], [], [212, 213, 74], [], [214, 215, 74, 216], [], [281], [], [], [122], [296], [], [], [122], [298], [], [], [122], [300], [], [], [122], [302], [], [], [122], [304], [], [], [122], [307], [], [], [122], [310], [], [], [122], [313], [], [], [122], [315], [], [], [122], [317], [], [219, 220, 75], [], [221, 222, 75, 223], [319], [], [], [219, 265], [323], [], [], [], [], [], [], [323], [], [219, 220, 75], [], [221, 222, 75, 223], [], [], [], [], [266, 267, 268, 68, 269], []]
set_option maxRecDepth 100000 in
theorem k_X9_init : xall xm_X9_init xc_X9_init xp_X9_init = true := by decide +kernel
theorem o_X9_init : ∀ q ∈ xm_X9_init.2, ∃ p, xchk xm_X9_init q p = true := xall_mem k_X9_init
def xp_X9_empty : List (List Nat) := [[], [], [283], [], [], [287], [], [], [291], [], [], [294], [], [319], [270, 271, 272, 75, 273], []]
set_option maxRecDepth 100000 in
theorem k_X9_empty : xall xm_X9_empty xc_X9_empty xp_X9_empty = true := by decide +kernel
theorem o_X9_empty : ∀ q ∈ xm_X9_empty.2, ∃ p, xchk xm_X9_empty q p = true := xall_mem k_X9_empty
def xp_X9_copyFrom : List (List Nat) := [[], [], [283], [283], [], [], [287], [287], [], [], [291], [291], [], [], [294], [294], [], [296], [], [], [296], [], [], [912, 622, 621, 82], [], [298], [], [], [298], [], [], [912, 622, 621, 82], [], [300], [], [], [300], [], [], [912, 622, 621, 82], [], [302], [], [], [302], [], [], [912, 622, 621, 82], [], [304], [], [], [304], [], [], [912, 622, 621, 82], [], [307], [], [], [307], [], [], [912, 622, 621, 82], [], [310], [], [], [310], [], [], [912, 622, 621, 82], [], [313], [], [], [313], [], [], [912, 622, 621, 82], [], [315], [], [], [315], [], [], [912, 622, 621, 82], [], [317], [], [], [317], [], [], [912, 622, 621, 82], [], [319], [], [319], [616, 617, 618, 75, 619], [], [], [], [], [294], [], [], [323], [], [], [], [323], [], [], [616, 617, 618, 75, 619], [], [], []]
set_option maxRecDepth 100000 in
theorem k_X9_copyFrom : xall xm_X9_copyFrom xc_X9_copyFrom xp_X9_copyFrom = true := by decide +kernel
theorem o_X9_copyFrom : ∀ q ∈ xm_X9_copyFrom.2, ∃ p, xchk xm_X9_copyFrom q p = true := xall_mem k_X9_copyFrom
def xp_X9_addView : List (List Nat) := [[], [296], [], [283], [], [], [], [298], [], [283], [], [], [], [300], [], [283], [], [], [], [302], [], [283], [], [], [], [304], [], [283], [], [], [], [], [283], [], [], [283], [], [], [294], []]
set_option maxRecDepth 100000 in
theorem k_X9_addView : xall xm_X9_addView xc_X9_addView xp_X9_addView = true := by decide +kernel
theorem o_X9_addView : ∀ q ∈ xm_X9_addView.2, ∃ p, xchk xm_X9_addView q p = true := xall_mem k_X9_addView
def xp_X9_addRenter : List (List Nat) := [[], [307], [], [287], [], [], [], [310], [], [287], [], [], [], [319], [237], [], [287], [], [], [], [], [287], [], [], [287], [], [], [294], []]
set_option maxRecDepth 100000 in
theorem k_X9_addRenter : xall xm_X9_addRenter xc_X9_addRenter xp_X9_addRenter = true := by decide +kernel
theorem o_X9_addRenter : ∀ q ∈ xm_X9_addRenter.2, ∃ p, xchk xm_X9_addRenter q p = true := xall_mem k_X9_addRenter
def xp_X9_addReading : List (List Nat) := [[], [313], [], [291], [], [], [], [315], [], [291], [], [], [], [317], [], [291], [], [], [], [], [291], [], [], [291], []]
set_option maxRecDepth 100000 in
theorem k_X9_addReading : xall xm_X9_addReading xc_X9_addReading xp_X9_addReading = true := by decide +kernel
theorem o_X9_addReading : ∀ q ∈ xm_X9_addReading.2, ∃ p, xchk xm_X9_addReading q p = true := xall_mem k_X9_addReading

def xp_X4_init : List (List Nat) := [[], [133, 117, 68, 118], []]
set_option maxRecDepth 100000 in
theorem k_X4_init : xall xm_X4_init xc_X4_init xp_X4_init = true := by decide +kernel
theorem o_X4_init : ∀ q ∈ xm_X4_init.2, ∃ p, xchk xm_X4_init q p = true := xall_mem k_X4_init
def xp_X4_showing : List (List Nat) := [[], [], [], [], [], [], [], [], [], [], [676, 1388, 134, 677, 68, 678], []]
set_option maxRecDepth 100000 in
theorem k_X4_showing : xall xm_X4_showing xc_X4_showing xp_X4_showing = true := by decide +kernel
theorem o_X4_showing : ∀ q ∈ xm_X4_showing.2, ∃ p, xchk xm_X4_showing q p = true := xall_mem k_X4_showing
def xp_X4_fee : List (List Nat) := [[], []]
set_option maxRecDepth 100000 in
theorem k_X4_fee : xall xm_X4_fee xc_X4_fee xp_X4_fee = true := by decide +kernel
theorem o_X4_fee : ∀ q ∈ xm_X4_fee.2, ∃ p, xchk xm_X4_fee q p = true := xall_mem k_X4_fee
def xp_X5_init : List (List Nat) := [[], [200, 90, 91], [], [], [212], [203], [], [], [164], [204], []]
set_option maxRecDepth 100000 in
theorem k_X5_init : xall xm_X5_init xc_X5_init xp_X5_init = true := by decide +kernel
theorem o_X5_init : ∀ q ∈ xm_X5_init.2, ∃ p, xchk xm_X5_init q p = true := xall_mem k_X5_init
def xp_X5_guess : List (List Nat) := [[], [], [201], [], [], [], [], [], [], [203], [], [], [], [], [852, 853, 73, 854], [], [], [203], [], [], [], [], [], [201], [], [], [201], [], [], []]
set_option maxRecDepth 100000 in
theorem k_X5_guess : xall xm_X5_guess xc_X5_guess xp_X5_guess = true := by decide +kernel
theorem o_X5_guess : ∀ q ∈ xm_X5_guess.2, ∃ p, xchk xm_X5_guess q p = true := xall_mem k_X5_guess
def xp_X5_showing : List (List Nat) := [[], [281], [], [], [], [], [], [], [], [], [858, 667, 665, 686, 668, 665, 65, 686, 667, 665, 686, 669, 670, 67, 671, 667, 665, 686, 673, 674, 70, 675, 667, 665, 686, 679, 677, 68, 678, 667, 665, 686, 666, 665, 65, 686, 667, 665, 686, 680, 681, 66, 682], []]
set_option maxRecDepth 100000 in
theorem k_X5_showing : xall xm_X5_showing xc_X5_showing xp_X5_showing = true := by decide +kernel
theorem o_X5_showing : ∀ q ∈ xm_X5_showing.2, ∃ p, xchk xm_X5_showing q p = true := xall_mem k_X5_showing
def xp_X5_fitsReadings : List (List Nat) := [[], [], [], [], [291], [], [], [313], [], [], [], [], [], [], [], [315], [], [], [855, 856, 73, 857], [], [317], [], [], [], [], [], [], [], [], []]
set_option maxRecDepth 100000 in
theorem k_X5_fitsReadings : xall xm_X5_fitsReadings xc_X5_fitsReadings xp_X5_fitsReadings = true := by decide +kernel
theorem o_X5_fitsReadings : ∀ q ∈ xm_X5_fitsReadings.2, ∃ p, xchk xm_X5_fitsReadings q p = true := xall_mem k_X5_fitsReadings
def xp_X5_kindBits : List (List Nat) := [[], [], [], [], [], [], [], [], [203], [], [], [], [], [], [], [], [], [], [], [], [], [], [], []]
set_option maxRecDepth 100000 in
theorem k_X5_kindBits : xall xm_X5_kindBits xc_X5_kindBits xp_X5_kindBits = true := by decide +kernel
theorem o_X5_kindBits : ∀ q ∈ xm_X5_kindBits.2, ∃ p, xchk xm_X5_kindBits q p = true := xall_mem k_X5_kindBits
def xp_X5_bestEvening : List (List Nat) := [[], [201], [], [], [], [], [], [], [201], [], [], [], [], [], [], [], [], [], [], [], [320], [225], [], [], [871, 873, 24, 73, 874], [], [], [], [], [], [], [], [], [], [], [], [320], [225], [], [], []]
set_option maxRecDepth 100000 in
theorem k_X5_bestEvening : xall xm_X5_bestEvening xc_X5_bestEvening xp_X5_bestEvening = true := by decide +kernel
theorem o_X5_bestEvening : ∀ q ∈ xm_X5_bestEvening.2, ∃ p, xchk xm_X5_bestEvening q p = true := xall_mem k_X5_bestEvening
def xp_X5_mostAlike : List (List Nat) := [[], [204], [], [875, 278, 76, 279], [], [], [], [], [], [], [], [], [203], [], [], [], [], [], [], [855, 856, 73, 857], [], [], [204], [], [], [], [], [], [], [], [], [204], [], [], [876, 737, 78, 738], [], [], [], [], []]
set_option maxRecDepth 100000 in
theorem k_X5_mostAlike : xall xm_X5_mostAlike xc_X5_mostAlike xp_X5_mostAlike = true := by decide +kernel
theorem o_X5_mostAlike : ∀ q ∈ xm_X5_mostAlike.2, ∃ p, xchk xm_X5_mostAlike q p = true := xall_mem k_X5_mostAlike
def xp_X6_init : List (List Nat) := [[], [119, 103, 66, 104], []]
set_option maxRecDepth 100000 in
theorem k_X6_init : xall xm_X6_init xc_X6_init xp_X6_init = true := by decide +kernel
theorem o_X6_init : ∀ q ∈ xm_X6_init.2, ∃ p, xchk xm_X6_init q p = true := xall_mem k_X6_init
def xp_X6_showing : List (List Nat) := [[], []]
set_option maxRecDepth 100000 in
theorem k_X6_showing : xall xm_X6_showing xc_X6_showing xp_X6_showing = true := by decide +kernel
theorem o_X6_showing : ∀ q ∈ xm_X6_showing.2, ∃ p, xchk xm_X6_showing q p = true := xall_mem k_X6_showing
def xp_X6_fee : List (List Nat) := [[], [], [610, 611, 120, 593, 65, 614, 106], [], [], []]
set_option maxRecDepth 100000 in
theorem k_X6_fee : xall xm_X6_fee xc_X6_fee xp_X6_fee = true := by decide +kernel
theorem o_X6_fee : ∀ q ∈ xm_X6_fee.2, ∃ p, xchk xm_X6_fee q p = true := xall_mem k_X6_fee
def xp_X7_init : List (List Nat) := [[], [98, 90, 91], []]
set_option maxRecDepth 100000 in
theorem k_X7_init : xall xm_X7_init xc_X7_init xp_X7_init = true := by decide +kernel
theorem o_X7_init : ∀ q ∈ xm_X7_init.2, ∃ p, xchk xm_X7_init q p = true := xall_mem k_X7_init
def xp_X7_showing : List (List Nat) := [[], [], [], [], [687, 684, 78, 685], []]
set_option maxRecDepth 100000 in
theorem k_X7_showing : xall xm_X7_showing xc_X7_showing xp_X7_showing = true := by decide +kernel
theorem o_X7_showing : ∀ q ∈ xm_X7_showing.2, ∃ p, xchk xm_X7_showing q p = true := xall_mem k_X7_showing
def xp_X7_fee : List (List Nat) := [[], []]
set_option maxRecDepth 100000 in
theorem k_X7_fee : xall xm_X7_fee xc_X7_fee xp_X7_fee = true := by decide +kernel
theorem o_X7_fee : ∀ q ∈ xm_X7_fee.2, ∃ p, xchk xm_X7_fee q p = true := xall_mem k_X7_fee
def xp_X7_fits : List (List Nat) := [[], [], [], [], [], [], []]
set_option maxRecDepth 100000 in
theorem k_X7_fits : xall xm_X7_fits xc_X7_fits xp_X7_fits = true := by decide +kernel
theorem o_X7_fits : ∀ q ∈ xm_X7_fits.2, ∃ p, xchk xm_X7_fits q p = true := xall_mem k_X7_fits
def xp_X8_init : List (List Nat) := [[], [142, 90, 91], [], [], [164], [149], [], [], [145], []]
set_option maxRecDepth 100000 in
theorem k_X8_init : xall xm_X8_init xc_X8_init xp_X8_init = true := by decide +kernel
theorem o_X8_init : ∀ q ∈ xm_X8_init.2, ∃ p, xchk xm_X8_init q p = true := xall_mem k_X8_init
def xp_X8_readInto : List (List Nat) := [[], [], [], [145], [], [453, 454, 78, 455], [146], [], [], [147], [], [456, 266, 267, 74, 268], [], [457, 459, 2, 71, 460], [], [465], [466, 468, 4, 71, 469], [], [], [], [], [457, 459, 2, 71, 460], [], [518, 520, 5, 71, 521], [], [], [], [], [], [], [148], [], [], [], [], [], [], [522, 524, 6, 71, 525], [], [], [], [], [], [], []]
set_option maxRecDepth 100000 in
theorem k_X8_readInto : xall xm_X8_readInto xc_X8_readInto xp_X8_readInto = true := by decide +kernel
theorem o_X8_readInto : ∀ q ∈ xm_X8_readInto.2, ∃ p, xchk xm_X8_readInto q p = true := xall_mem k_X8_readInto
def xp_X8_readItem : List (List Nat) := [[], [526], [466, 468, 4, 71, 469], [], [], [284], [], [], [], [], [527, 529, 7, 71, 530], [], [], [], [], [], [], [541], [466, 468, 4, 71, 469], [], [], [287], [], [], [], [], [542, 544, 10, 71, 545], [], [], [], [], [], [], [547], [466, 468, 4, 71, 469], [], [], [], [548, 550, 11, 71, 551], [], [], [], [], []]
set_option maxRecDepth 100000 in
theorem k_X8_readItem : xall xm_X8_readItem xc_X8_readItem xp_X8_readItem = true := by decide +kernel
theorem o_X8_readItem : ∀ q ∈ xm_X8_readItem.2, ∃ p, xchk xm_X8_readItem q p = true := xall_mem k_X8_readItem
def xp_X8_readView : List (List Nat) := [[], [457, 459, 2, 71, 460], [], [], [], [], [531, 533, 8, 71, 534], [], [], [], [], [], [531, 533, 8, 71, 534], [], [], [], [], [], [531, 533, 8, 71, 534], [], [], [], [], [], [531, 533, 8, 71, 534], [], [], [518, 520, 5, 71, 521], [], [], [], [], [], [149], [], [], [], [149], [], [], [], [149], [], [], [], [149], [], [], [540, 415, 416, 74, 417], [], []]
set_option maxRecDepth 100000 in
theorem k_X8_readView : xall xm_X8_readView xc_X8_readView xp_X8_readView = true := by decide +kernel
theorem o_X8_readView : ∀ q ∈ xm_X8_readView.2, ∃ p, xchk xm_X8_readView q p = true := xall_mem k_X8_readView
def xp_X8_readRenter : List (List Nat) := [[], [457, 459, 2, 71, 460], [], [], [], [], [531, 533, 8, 71, 534], [], [], [], [], [], [531, 533, 8, 71, 534], [], [], [], [], [], [531, 533, 8, 71, 534], [], [], [518, 520, 5, 71, 521], [], [], [], [], [], [149], [], [], [], [149], [], [], [], [149], [], [], [546, 426, 427, 74, 428], [], []]
set_option maxRecDepth 100000 in
theorem k_X8_readRenter : xall xm_X8_readRenter xc_X8_readRenter xp_X8_readRenter = true := by decide +kernel
theorem o_X8_readRenter : ∀ q ∈ xm_X8_readRenter.2, ∃ p, xchk xm_X8_readRenter q p = true := xall_mem k_X8_readRenter
def xp_X8_readThing : List (List Nat) := [[], [457, 459, 2, 71, 460], [], [], [], [], [284], [], [], [531, 533, 8, 71, 534], [], [], [], [], [], [531, 533, 8, 71, 534], [], [], [518, 520, 5, 71, 521], [], [], [], [], [305], [], [149], [], [], [], [], [], [], [149], [], [], [], [], [], [], []]
set_option maxRecDepth 100000 in
theorem k_X8_readThing : xall xm_X8_readThing xc_X8_readThing xp_X8_readThing = true := by decide +kernel
theorem o_X8_readThing : ∀ q ∈ xm_X8_readThing.2, ∃ p, xchk xm_X8_readThing q p = true := xall_mem k_X8_readThing
def xp_X8_passMark : List (List Nat) := [[], [148], [], [], [], [], [], [457, 459, 2, 71, 460], [], []]
set_option maxRecDepth 100000 in
theorem k_X8_passMark : xall xm_X8_passMark xc_X8_passMark xp_X8_passMark = true := by decide +kernel
theorem o_X8_passMark : ∀ q ∈ xm_X8_passMark.2, ∃ p, xchk xm_X8_passMark q p = true := xall_mem k_X8_passMark
def xp_X8_passNumber : List (List Nat) := [[], [535, 537, 9, 71, 538], [], [], [], [], [], [], [], [539, 405, 64, 406], [], [], [], [], [149], [], [], [], [], [457, 459, 2, 71, 460], [], []]
set_option maxRecDepth 100000 in
theorem k_X8_passNumber : xall xm_X8_passNumber xc_X8_passNumber xp_X8_passNumber = true := by decide +kernel
theorem o_X8_passNumber : ∀ q ∈ xm_X8_passNumber.2, ∃ p, xchk xm_X8_passNumber q p = true := xall_mem k_X8_passNumber
def xp_X8_numberMet : List (List Nat) := [[], [148], [], [], [], [147], [], [144], [], [], [], [], [], [], [], [], [144], [], [], [], [147], [], [], [], [], [], [145], [], [], [], [], [], [], [], [], [], []]
set_option maxRecDepth 100000 in
theorem k_X8_numberMet : xall xm_X8_numberMet xc_X8_numberMet xp_X8_numberMet = true := by decide +kernel
theorem o_X8_numberMet : ∀ q ∈ xm_X8_numberMet.2, ∃ p, xchk xm_X8_numberMet q p = true := xall_mem k_X8_numberMet
def xp_X8_isWord : List (List Nat) := [[], [148], [], [], [], [147], [], [144], [], [], [470, 471, 472, 79, 473], [], [], [], [], [], [], [], [470, 471, 472, 79, 473], [], [], [145], [], [144], [], [], [], [], [], [480, 481, 482, 79, 483], [], [], [], [], [], [], []]
set_option maxRecDepth 100000 in
theorem k_X8_isWord : xall xm_X8_isWord xc_X8_isWord xp_X8_isWord = true := by decide +kernel
theorem o_X8_isWord : ∀ q ∈ xm_X8_isWord.2, ∃ p, xchk xm_X8_isWord q p = true := xall_mem k_X8_isWord
def xp_X8_step : List (List Nat) := [[], [], [147], [144], [], [144], [], [146], [], [], [145], [], [144], [], [], [], [], [], [144], [], [], [144], [], [], [], [], [144], [461, 463, 3, 71, 464], [148], [], [], [148], [], [], [144], [], [], [144], [], [], [147], [], [148], [], [], [], [148], [], [], [], [147], [], [146], [], [], [], [147], [461, 463, 3, 71, 464], [], [148], [], [], [], [147], [], [], [147], [], []]
set_option maxRecDepth 100000 in
theorem k_X8_step : xall xm_X8_step xc_X8_step xp_X8_step = true := by decide +kernel
theorem o_X8_step : ∀ q ∈ xm_X8_step.2, ∃ p, xchk xm_X8_step q p = true := xall_mem k_X8_step
def xp_X8_sortAt : List (List Nat) := [[], [], [146], [], [], [], [], [145], [], [], [], [], [], [], [], [], [], [], [], [], [], [], [], [], [], [], [], [], [], [], [], [], [], []]
set_option maxRecDepth 100000 in
theorem k_X8_sortAt : xall xm_X8_sortAt xc_X8_sortAt xp_X8_sortAt = true := by decide +kernel
theorem o_X8_sortAt : ∀ q ∈ xm_X8_sortAt.2, ∃ p, xchk xm_X8_sortAt q p = true := xall_mem k_X8_sortAt
def xp_X9_init : List (List Nat) := [[], [217, 90, 91], [], [], [164], [295], [], [], [164], [297], [], [], [164], [299], [], [], [164], [301], [], [], [164], [303], [], [], [164], [306], [], [], [164], [309], [], [], [164], [312], [], [], [164], [314], [], [], [164], [316], [], [218, 219, 75], [], [220, 221, 75, 222], [318], [], [], [218, 264], [322], [], [], [280], [], [], [], [], [], [], [322], [], [218, 219, 75], [], [220, 221, 75, 222], [], [], [], [], [265, 266, 267, 74, 268], []]
set_option maxRecDepth 100000 in
theorem k_X9_init : xall xm_X9_init xc_X9_init xp_X9_init = true := by decide +kernel
theorem o_X9_init : ∀ q ∈ xm_X9_init.2, ∃ p, xchk xm_X9_init q p = true := xall_mem k_X9_init
def xp_X9_empty : List (List Nat) := [[], [], [282], [], [], [286], [], [], [290], [], [], [293], [], [318], [269, 270, 271, 75, 272], []]
set_option maxRecDepth 100000 in
theorem k_X9_empty : xall xm_X9_empty xc_X9_empty xp_X9_empty = true := by decide +kernel
theorem o_X9_empty : ∀ q ∈ xm_X9_empty.2, ∃ p, xchk xm_X9_empty q p = true := xall_mem k_X9_empty
def xp_X9_copyFrom : List (List Nat) := [[], [], [282], [282], [], [], [286], [286], [], [], [290], [290], [], [], [293], [293], [], [295], [], [], [295], [], [], [917, 629, 628, 83], [], [297], [], [], [297], [], [], [917, 629, 628, 83], [], [299], [], [], [299], [], [], [917, 629, 628, 83], [], [301], [], [], [301], [], [], [917, 629, 628, 83], [], [303], [], [], [303], [], [], [917, 629, 628, 83], [], [306], [], [], [306], [], [], [917, 629, 628, 83], [], [309], [], [], [309], [], [], [917, 629, 628, 83], [], [312], [], [], [312], [], [], [917, 629, 628, 83], [], [314], [], [], [314], [], [], [917, 629, 628, 83], [], [316], [], [], [316], [], [], [917, 629, 628, 83], [], [318], [], [318], [623, 624, 625, 75, 626], [], [], [], [], [293], [], [], [322], [], [], [], [322], [], [], [623, 624, 625, 75, 626], [], [], []]
set_option maxRecDepth 100000 in
theorem k_X9_copyFrom : xall xm_X9_copyFrom xc_X9_copyFrom xp_X9_copyFrom = true := by decide +kernel
theorem o_X9_copyFrom : ∀ q ∈ xm_X9_copyFrom.2, ∃ p, xchk xm_X9_copyFrom q p = true := xall_mem k_X9_copyFrom
def xp_X9_addView : List (List Nat) := [[], [295], [], [282], [], [], [], [297], [], [282], [], [], [], [299], [], [282], [], [], [], [301], [], [282], [], [], [], [303], [], [282], [], [], [], [], [282], [], [], [282], [], [], [293], []]
set_option maxRecDepth 100000 in
theorem k_X9_addView : xall xm_X9_addView xc_X9_addView xp_X9_addView = true := by decide +kernel
theorem o_X9_addView : ∀ q ∈ xm_X9_addView.2, ∃ p, xchk xm_X9_addView q p = true := xall_mem k_X9_addView
def xp_X9_addRenter : List (List Nat) := [[], [306], [], [286], [], [], [], [309], [], [286], [], [], [], [318], [236], [], [286], [], [], [], [], [286], [], [], [286], [], [], [293], []]
set_option maxRecDepth 100000 in
theorem k_X9_addRenter : xall xm_X9_addRenter xc_X9_addRenter xp_X9_addRenter = true := by decide +kernel
theorem o_X9_addRenter : ∀ q ∈ xm_X9_addRenter.2, ∃ p, xchk xm_X9_addRenter q p = true := xall_mem k_X9_addRenter
def xp_X9_addReading : List (List Nat) := [[], [312], [], [290], [], [], [], [314], [], [290], [], [], [], [316], [], [290], [], [], [], [], [290], [], [], [290], []]
set_option maxRecDepth 100000 in
theorem k_X9_addReading : xall xm_X9_addReading xc_X9_addReading xp_X9_addReading = true := by decide +kernel
theorem o_X9_addReading : ∀ q ∈ xm_X9_addReading.2, ∃ p, xchk xm_X9_addReading q p = true := xall_mem k_X9_addReading
def xp_X9_remember : List (List Nat) := [[], [293], [], [], [], [619, 621, 13, 74, 622], [], [], [293], [], [322], [], [293], [], [], [318], [623, 624, 625, 75, 626], [], [], [293], [], [], [293], []]
set_option maxRecDepth 100000 in
theorem k_X9_remember : xall xm_X9_remember xc_X9_remember xp_X9_remember = true := by decide +kernel
theorem o_X9_remember : ∀ q ∈ xm_X9_remember.2, ∃ p, xchk xm_X9_remember q p = true := xall_mem k_X9_remember
def xp_X9_moveOldestToEnd : List (List Nat) := [[], [322], [], [], [], [], [], [], [], [], [], [322], [], [], [], [], [322], [], [], [], [], [], [], [322], [], [], [], []]
set_option maxRecDepth 100000 in
theorem k_X9_moveOldestToEnd : xall xm_X9_moveOldestToEnd xc_X9_moveOldestToEnd xp_X9_moveOldestToEnd = true := by decide +kernel
theorem o_X9_moveOldestToEnd : ∀ q ∈ xm_X9_moveOldestToEnd.2, ∃ p, xchk xm_X9_moveOldestToEnd q p = true := xall_mem k_X9_moveOldestToEnd

def xp_X9_goBack : List (List Nat) := [[], [], [293], [], [], [293], [], [318], [], [322], [], [293], [], [623, 624, 625, 75, 626], []]
set_option maxRecDepth 100000 in
theorem k_X9_goBack : xall xm_X9_goBack xc_X9_goBack xp_X9_goBack = true := by decide +kernel
theorem o_X9_goBack : ∀ q ∈ xm_X9_goBack.2, ∃ p, xchk xm_X9_goBack q p = true := xall_mem k_X9_goBack
def xp_X9_showing : List (List Nat) := [[], [280], [], [295], [], [], [], [], [301], [], [], [], [664, 667, 665, 686, 668, 665, 65, 686, 667, 665, 686, 669, 670, 67, 671, 667, 665, 686, 673, 674, 70, 675, 667, 665, 686, 679, 677, 68, 678, 667, 665, 686, 666, 665, 65, 686, 667, 665, 686, 680, 681, 66, 682], []]
set_option maxRecDepth 100000 in
theorem k_X9_showing : xall xm_X9_showing xc_X9_showing xp_X9_showing = true := by decide +kernel
theorem o_X9_showing : ∀ q ∈ xm_X9_showing.2, ∃ p, xchk xm_X9_showing q p = true := xall_mem k_X9_showing
def xp_X9_fee : List (List Nat) := [[], [], [], [299], [], [], [588, 589, 590, 74, 591], []]
set_option maxRecDepth 100000 in
theorem k_X9_fee : xall xm_X9_fee xc_X9_fee xp_X9_fee = true := by decide +kernel
theorem o_X9_fee : ∀ q ∈ xm_X9_fee.2, ∃ p, xchk xm_X9_fee q p = true := xall_mem k_X9_fee
def xp_X9_feeAt : List (List Nat) := [[], [280], [], [295], [], [], [], [], [592, 595, 593, 614, 596, 597, 69, 598, 595, 593, 614, 600, 601, 67, 602, 595, 593, 614, 604, 605, 70, 606, 595, 593, 614, 607, 608, 68, 609, 595, 593, 614, 594, 593, 65, 614, 595, 593, 614, 613, 593, 65, 614], []]
set_option maxRecDepth 100000 in
theorem k_X9_feeAt : xall xm_X9_feeAt xc_X9_feeAt xp_X9_feeAt = true := by decide +kernel
theorem o_X9_feeAt : ∀ q ∈ xm_X9_feeAt.2, ∃ p, xchk xm_X9_feeAt q p = true := xall_mem k_X9_feeAt
def xp_X9_fits : List (List Nat) := [[], [280], [], [295], [], [], [], [], [297], [], [], [], [572, 575, 573, 583, 576, 577, 69, 578, 575, 573, 583, 579, 573, 65, 583, 575, 573, 583, 580, 573, 65, 583, 575, 573, 583, 581, 573, 65, 583, 575, 573, 583, 574, 573, 65, 583, 575, 573, 583, 582, 573, 65, 583], []]
set_option maxRecDepth 100000 in
theorem k_X9_fits : xall xm_X9_fits xc_X9_fits xp_X9_fits = true := by decide +kernel
theorem o_X9_fits : ∀ q ∈ xm_X9_fits.2, ∃ p, xchk xm_X9_fits q p = true := xall_mem k_X9_fits
def xp_X9_mayLet : List (List Nat) := [[], [318], [240], [], [], [], [], [], [318], [], [564, 565, 566, 75, 567], [], [], [], [], [], [306], [], [], [568, 569, 570, 74, 571], [], [], [], [584, 585, 586, 74, 587], [], [318], [236], [], [], [], [], [], [], []]
set_option maxRecDepth 100000 in
theorem k_X9_mayLet : xall xm_X9_mayLet xc_X9_mayLet xp_X9_mayLet = true := by decide +kernel
theorem o_X9_mayLet : ∀ q ∈ xm_X9_mayLet.2, ∃ p, xchk xm_X9_mayLet q p = true := xall_mem k_X9_mayLet
def xp_X9_airNow : List (List Nat) := [[], [318], [], [564, 565, 566, 75, 567], [], [], [318], [], [564, 565, 566, 75, 567], [], [], [], [], [], [], [], [], [], [], [], [], [806, 808, 23, 74, 809], []]
set_option maxRecDepth 100000 in
theorem k_X9_airNow : xall xm_X9_airNow xc_X9_airNow xp_X9_airNow = true := by decide +kernel
theorem o_X9_airNow : ∀ q ∈ xm_X9_airNow.2, ∃ p, xchk xm_X9_airNow q p = true := xall_mem k_X9_airNow
def xp_X9_airOf : List (List Nat) := [[], [], [], [318], [227], [810, 661, 662, 74, 663], [], [], [], [318], [227], [810, 661, 662, 74, 663], [], [], [], [], [], []]
set_option maxRecDepth 100000 in
theorem k_X9_airOf : xall xm_X9_airOf xc_X9_airOf xp_X9_airOf = true := by decide +kernel
theorem o_X9_airOf : ∀ q ∈ xm_X9_airOf.2, ∃ p, xchk xm_X9_airOf q p = true := xall_mem k_X9_airOf
def xp_X9_fewestForAir : List (List Nat) := [[], [], [], [], [], [318], [], [564, 565, 566, 75, 567], [], [], [318], [], [564, 565, 566, 75, 567], [], [], [], [], [], [], [], [282], [], [], [], [], [], [282], [], [], [], [], [], [], [], [806, 808, 23, 74, 809], [], [], [], [], [], [306], [], [], [568, 569, 570, 74, 571], [], [], [], [], [306], [], [], [568, 569, 570, 74, 571], [], [], [], [], [], [], [], [], [], [], [], [], [], [], [], [], [], [], [], [], [], [], [], [], [], [], [], [], [], [], [], [], [], [819, 454, 78, 455], [], [], [], [], [], [], []]
set_option maxRecDepth 100000 in
theorem k_X9_fewestForAir : xall xm_X9_fewestForAir xc_X9_fewestForAir xp_X9_fewestForAir = true := by decide +kernel
theorem o_X9_fewestForAir : ∀ q ∈ xm_X9_fewestForAir.2, ∃ p, xchk xm_X9_fewestForAir q p = true := xall_mem k_X9_fewestForAir
def xp_X9_digestFrom : List (List Nat) := [[], [], [], [], [282], [], [945], [], [], [], [295], [], [], [], [], [], [945], [], [], [], [297], [], [], [], [], [], [945], [], [], [], [299], [], [], [], [], [], [945], [], [], [], [301], [], [], [], [], [], [945], [], [], [], [318], [240], [], [], [], [], [], [945], [], [], [], [303], [], [], [], [], [], [], [], [], [], [], [], [286], [], [945], [], [], [], [306], [], [], [], [], [], [945], [], [], [], [318], [236], [], [], [], [], [], [945], [], [], [], [309], [], [], [], [], [], [], [], [], [], [], [], [318], [232], [], [945], [], [], [], [318], [242], [], [], [], [], [], [945], [], [], [], [318], [244], [], [], [], [], [], [945], [], [], [], [318], [246], [], [], [], [], [], [], [], [], [], [], [], [290], [], [945], [], [], [], [312], [], [], [], [], [], [945], [], [], [], [314], [], [], [], [], [], [945], [], [], [], [316], [], [], [], [], [], [], [], [], []]
set_option maxRecDepth 100000 in
theorem k_X9_digestFrom : xall xm_X9_digestFrom xc_X9_digestFrom xp_X9_digestFrom = true := by decide +kernel
theorem o_X9_digestFrom : ∀ q ∈ xm_X9_digestFrom.2, ∃ p, xchk xm_X9_digestFrom q p = true := xall_mem k_X9_digestFrom
def xp_X10_init : List (List Nat) := [[], [105, 96, 65, 97], []]
set_option maxRecDepth 100000 in
theorem k_X10_init : xall xm_X10_init xc_X10_init xp_X10_init = true := by decide +kernel
theorem o_X10_init : ∀ q ∈ xm_X10_init.2, ∃ p, xchk xm_X10_init q p = true := xall_mem k_X10_init
def xp_X10_showing : List (List Nat) := [[], [], [], [], [], [], [683, 684, 78, 685], []]
set_option maxRecDepth 100000 in
theorem k_X10_showing : xall xm_X10_showing xc_X10_showing xp_X10_showing = true := by decide +kernel
theorem o_X10_showing : ∀ q ∈ xm_X10_showing.2, ∃ p, xchk xm_X10_showing q p = true := xall_mem k_X10_showing
def xp_X11_init : List (List Nat) := [[], [89, 90, 91], [], [], [92, 93], [], [], [92, 94, 65], [], [95, 96, 65, 97], [], [], [], [100, 101, 66], [], [102, 103, 66, 104], [], [], [], [107, 108, 67], [], [109, 110, 67, 111], [], [], [], [114, 115, 68], [], [116, 117, 68, 118], [], [], [], [121, 122, 69], [], [123, 124, 69, 125], [], [], [], [128, 129, 70], [], [130, 131, 70, 132], [], [358], [], [], [135, 136], [359], [], [], [163], [363], [], [137, 138, 71], [], [], [363], [139, 140, 71, 141], [360], [], [165, 166, 72], [], [167, 168, 72, 169], [361], [], [195, 196, 73], [], [197, 198, 73, 199], [362], [], [], [164], [364], [], [135, 213, 74], [], [], [358], [214, 215, 74, 216], [365], [], [135, 213, 74], [], [], [358], [214, 215, 74, 216], [366], [], [], [367], [], [], [368], [], [], [369], []]
set_option maxRecDepth 100000 in
theorem k_X11_init : xall xm_X11_init xc_X11_init xp_X11_init = true := by decide +kernel
theorem o_X11_init : ∀ q ∈ xm_X11_init.2, ∃ p, xchk xm_X11_init q p = true := xall_mem k_X11_init
def xp_X11_shop : List (List Nat) := [[], [365], [283], [], [], [365], [399, 266, 267, 74, 268], [], []]
set_option maxRecDepth 100000 in
theorem k_X11_shop : xall xm_X11_shop xc_X11_shop xp_X11_shop = true := by decide +kernel
theorem o_X11_shop : ∀ q ∈ xm_X11_shop.2, ∃ p, xchk xm_X11_shop q p = true := xall_mem k_X11_shop
def xp_X11_view : List (List Nat) := [[], [], [], [404, 405, 64, 406], [], [], [], [], [404, 405, 64, 406], [], [], [], [], [404, 405, 64, 406], [], [], [407, 408, 64, 409], [], [], [], [410, 412, 0, 64, 413], [], [], [365], [283], [], [], [], [], [410, 412, 0, 64, 413], [], [], [365], [], [], [], [], [414, 415, 416, 74, 417], [], [365], [283], [], [], []]
set_option maxRecDepth 100000 in
theorem k_X11_view : xall xm_X11_view xc_X11_view xp_X11_view = true := by decide +kernel
theorem o_X11_view : ∀ q ∈ xm_X11_view.2, ∃ p, xchk xm_X11_view q p = true := xall_mem k_X11_view
def xp_X11_renter : List (List Nat) := [[], [], [], [422, 423, 64, 424], [], [], [], [410, 412, 0, 64, 413], [], [], [365], [288], [], [], [], [], [410, 412, 0, 64, 413], [], [], [365], [], [], [], [425, 426, 427, 74, 428], [], [365], [288], [], [], []]
set_option maxRecDepth 100000 in
theorem k_X11_renter : xall xm_X11_renter xc_X11_renter xp_X11_renter = true := by decide +kernel
theorem o_X11_renter : ∀ q ∈ xm_X11_renter.2, ∃ p, xchk xm_X11_renter q p = true := xall_mem k_X11_renter
def xp_X11_things : List (List Nat) := [[], [], [433, 435, 1, 64, 436], [], [], [], [], [404, 405, 64, 406], [], [], [], [410, 412, 0, 64, 413], [], [], [365], [304], [], [], [], [], [365], [304], [], [], [], [], []]
set_option maxRecDepth 100000 in
theorem k_X11_things : xall xm_X11_things xc_X11_things xp_X11_things = true := by decide +kernel
theorem o_X11_things : ∀ q ∈ xm_X11_things.2, ∃ p, xchk xm_X11_things q p = true := xall_mem k_X11_things
def xp_X11_type : List (List Nat) := [[], [], [], [404, 405, 64, 406], [], [], [], [410, 412, 0, 64, 413], [], [], [367], [], [], [], [], [410, 412, 0, 64, 413], [], [], [363], [], [367], [], [], [], [], [], [367], [], [], [367], [], [367], []]
set_option maxRecDepth 100000 in
theorem k_X11_type : xall xm_X11_type xc_X11_type xp_X11_type = true := by decide +kernel
theorem o_X11_type : ∀ q ∈ xm_X11_type.2, ∃ p, xchk xm_X11_type q p = true := xall_mem k_X11_type
def xp_X11_clear : List (List Nat) := [[], [367], [], [], [], [367], [], []]
set_option maxRecDepth 100000 in
theorem k_X11_clear : xall xm_X11_clear xc_X11_clear xp_X11_clear = true := by decide +kernel
theorem o_X11_clear : ∀ q ∈ xm_X11_clear.2, ∃ p, xchk xm_X11_clear q p = true := xall_mem k_X11_clear
def xp_X11_read : List (List Nat) := [[], [360], [], [366], [], [367], [449, 450, 451, 71, 452], [], [], [], [], [], [], [360], [143], [], [], [], [365], [], [], [], [366], [365], [], [], [366], [], []]
set_option maxRecDepth 100000 in
theorem k_X11_read : xall xm_X11_read xc_X11_read xp_X11_read = true := by decide +kernel
theorem o_X11_read : ∀ q ∈ xm_X11_read.2, ∃ p, xchk xm_X11_read q p = true := xall_mem k_X11_read
def xp_X11_let : List (List Nat) := [[], [], [433, 435, 1, 64, 436], [], [], [], [556, 558, 12, 64, 559], [], [], [], [410, 412, 0, 64, 413], [], [], [365], [], [], [560, 561, 562, 74, 563], [], [], [], [410, 412, 0, 64, 413], [], [], [365], [615, 616, 617, 74, 618], [], [365], [], [630, 585, 586, 74, 587], [], [], [365], [321], [], [], [], [631, 632, 633, 75, 634], [], []]
set_option maxRecDepth 100000 in
theorem k_X11_let : xall xm_X11_let xc_X11_let xp_X11_let = true := by decide +kernel
theorem o_X11_let : ∀ q ∈ xm_X11_let.2, ∃ p, xchk xm_X11_let q p = true := xall_mem k_X11_let
def xp_X11_night : List (List Nat) := [[], [365], [615, 616, 617, 74, 618], [], [365], [321], [643, 274, 275, 75, 276], [], [365], [321], [], [226], [], [], [226], [], [365], [321], [226], []]
set_option maxRecDepth 100000 in
theorem k_X11_night : xall xm_X11_night xc_X11_night xp_X11_night = true := by decide +kernel
theorem o_X11_night : ∀ q ∈ xm_X11_night.2, ∃ p, xchk xm_X11_night q p = true := xall_mem k_X11_night
def xp_X11_undo : List (List Nat) := [[], [365], [294], [], [], [], [410, 412, 0, 64, 413], [], [], [365], [648, 649, 650, 74, 651], [], [365], [321], [230], []]
set_option maxRecDepth 100000 in
theorem k_X11_undo : xall xm_X11_undo xc_X11_undo xp_X11_undo = true := by decide +kernel
theorem o_X11_undo : ∀ q ∈ xm_X11_undo.2, ∃ p, xchk xm_X11_undo q p = true := xall_mem k_X11_undo
def xp_X11_of : List (List Nat) := [[], [], [433, 435, 1, 64, 436], [], [], [656, 658, 15, 64, 659], [], [], [], [], [365], [296], [], [], [], [], [365], [298], [], [], [], [], [365], [300], [], [], [], [], [365], [302], [], [], [], [], [365], [], [], [365], [321], [226], [660, 661, 662, 74, 663], [], [], [365], [], [630, 585, 586, 74, 587], [], [], [365], [321], [239], [], [], [], [], [365], [304], [], [], [], [], [656, 658, 15, 64, 659], []]
set_option maxRecDepth 100000 in
theorem k_X11_of : xall xm_X11_of xc_X11_of xp_X11_of = true := by decide +kernel
theorem o_X11_of : ∀ q ∈ xm_X11_of.2, ∃ p, xchk xm_X11_of q p = true := xall_mem k_X11_of
def xp_X11_about : List (List Nat) := [[], [], [556, 558, 12, 64, 559], [], [], [656, 658, 15, 64, 659], [], [], [], [], [365], [308], [], [], [], [], [365], [321], [237], [], [], [], [], [365], [311], [], [], [], [], [365], [321], [], [692, 565, 566, 75, 567], [], [], [656, 658, 15, 64, 659], []]
set_option maxRecDepth 100000 in
theorem k_X11_about : xall xm_X11_about xc_X11_about xp_X11_about = true := by decide +kernel
theorem o_X11_about : ∀ q ∈ xm_X11_about.2, ∃ p, xchk xm_X11_about q p = true := xall_mem k_X11_about
def xp_X11_shows : List (List Nat) := [[], [], [433, 435, 1, 64, 436], [], [], [697, 698, 64, 699], [], [], [], [410, 412, 0, 64, 413], [], [], [365], [], [], [660, 661, 662, 74, 663], []]
set_option maxRecDepth 100000 in
theorem k_X11_shows : xall xm_X11_shows xc_X11_shows xp_X11_shows = true := by decide +kernel
theorem o_X11_shows : ∀ q ∈ xm_X11_shows.2, ∃ p, xchk xm_X11_shows q p = true := xall_mem k_X11_shows
def xp_X11_suits : List (List Nat) := [[], [], [433, 435, 1, 64, 436], [], [], [], [556, 558, 12, 64, 559], [], [], [697, 698, 64, 699], [], [], [], [410, 412, 0, 64, 413], [], [], [361], [], [365], [], [704, 705, 706, 72, 707], [], [361], [], [], [719, 720, 721, 72, 722], [], [], [], [], []]
set_option maxRecDepth 100000 in
theorem k_X11_suits : xall xm_X11_suits xc_X11_suits xp_X11_suits = true := by decide +kernel
theorem o_X11_suits : ∀ q ∈ xm_X11_suits.2, ∃ p, xchk xm_X11_suits q p = true := xall_mem k_X11_suits
def xp_X11_best : List (List Nat) := [[], [697, 698, 64, 699], [], [], [], [], [], [], [556, 558, 12, 64, 559], [], [], [656, 658, 15, 64, 659], [], [], [361], [], [365], [], [704, 705, 706, 72, 707], [], [361], [727, 728, 729, 72, 730], [], [], [], [], [], [739, 740, 72, 741], [], [], [361], [], [742, 743, 744, 72, 745], []]
set_option maxRecDepth 100000 in
theorem k_X11_best : xall xm_X11_best xc_X11_best xp_X11_best = true := by decide +kernel
theorem o_X11_best : ∀ q ∈ xm_X11_best.2, ∃ p, xchk xm_X11_best q p = true := xall_mem k_X11_best
def xp_X11_money : List (List Nat) := [[], [697, 698, 64, 699], [], [], [], [410, 412, 0, 64, 413], [], [], [361], [], [365], [], [704, 705, 706, 72, 707], [], [361], [727, 728, 729, 72, 730], [754, 755, 72, 756], []]
set_option maxRecDepth 100000 in
theorem k_X11_money : xall xm_X11_money xc_X11_money xp_X11_money = true := by decide +kernel
theorem o_X11_money : ∀ q ∈ xm_X11_money.2, ∃ p, xchk xm_X11_money q p = true := xall_mem k_X11_money
def xp_X11_come : List (List Nat) := [[], [697, 698, 64, 699], [], [], [], [], [404, 405, 64, 406], [], [], [], [410, 412, 0, 64, 413], [], [], [361], [], [365], [], [704, 705, 706, 72, 707], [], [361], [], [761, 762, 763, 72, 764], [], [], [], [], [739, 740, 72, 741], [], [], [754, 755, 72, 756], [], [], [361], [727, 728, 729, 72, 730], [739, 740, 72, 741], [], [739, 740, 72, 741], [], []]
set_option maxRecDepth 100000 in
theorem k_X11_come : xall xm_X11_come xc_X11_come xp_X11_come = true := by decide +kernel
theorem o_X11_come : ∀ q ∈ xm_X11_come.2, ∃ p, xchk xm_X11_come q p = true := xall_mem k_X11_come

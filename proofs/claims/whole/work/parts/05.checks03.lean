def xp_X9_remember : List (List Nat) := [[], [294], [], [], [], [612, 614, 13, 68, 615], [], [], [294], [], [323], [], [294], [], [], [319], [616, 617, 618, 75, 619], [], [], [294], [], [], [294], []]
set_option maxRecDepth 100000 in
theorem k_X9_remember : xall xm_X9_remember xc_X9_remember xp_X9_remember = true := by decide +kernel
theorem o_X9_remember : ∀ q ∈ xm_X9_remember.2, ∃ p, xchk xm_X9_remember q p = true := xall_mem k_X9_remember
def xp_X9_moveOldestToEnd : List (List Nat) := [[], [323], [], [], [], [], [], [], [], [], [], [323], [], [], [], [], [323], [], [], [], [], [], [], [323], [], [], [], []]
set_option maxRecDepth 100000 in
theorem k_X9_moveOldestToEnd : xall xm_X9_moveOldestToEnd xc_X9_moveOldestToEnd xp_X9_moveOldestToEnd = true := by decide +kernel
theorem o_X9_moveOldestToEnd : ∀ q ∈ xm_X9_moveOldestToEnd.2, ∃ p, xchk xm_X9_moveOldestToEnd q p = true := xall_mem k_X9_moveOldestToEnd
def xp_X9_goBack : List (List Nat) := [[], [], [294], [], [], [294], [], [319], [], [323], [], [294], [], [616, 617, 618, 75, 619], []]
set_option maxRecDepth 100000 in
theorem k_X9_goBack : xall xm_X9_goBack xc_X9_goBack xp_X9_goBack = true := by decide +kernel
theorem o_X9_goBack : ∀ q ∈ xm_X9_goBack.2, ∃ p, xchk xm_X9_goBack q p = true := xall_mem k_X9_goBack
def xp_X9_showing : List (List Nat) := [[], [281], [], [296], [], [], [], [], [302], [], [], [], [657, 660, 658, 679, 661, 658, 69, 679, 660, 658, 679, 662, 663, 71, 664, 660, 658, 679, 666, 667, 74, 668, 660, 658, 679, 672, 670, 72, 671, 660, 658, 679, 659, 658, 69, 679, 660, 658, 679, 673, 674, 70, 675], []]
set_option maxRecDepth 100000 in
theorem k_X9_showing : xall xm_X9_showing xc_X9_showing xp_X9_showing = true := by decide +kernel
theorem o_X9_showing : ∀ q ∈ xm_X9_showing.2, ∃ p, xchk xm_X9_showing q p = true := xall_mem k_X9_showing
def xp_X9_fee : List (List Nat) := [[], [], [], [300], [], [], [581, 582, 583, 68, 584], []]
set_option maxRecDepth 100000 in
theorem k_X9_fee : xall xm_X9_fee xc_X9_fee xp_X9_fee = true := by decide +kernel
theorem o_X9_fee : ∀ q ∈ xm_X9_fee.2, ∃ p, xchk xm_X9_fee q p = true := xall_mem k_X9_fee
def xp_X9_feeAt : List (List Nat) := [[], [281], [], [296], [], [], [], [], [585, 588, 586, 607, 589, 590, 73, 591, 588, 586, 607, 593, 594, 71, 595, 588, 586, 607, 597, 598, 74, 599, 588, 586, 607, 600, 601, 72, 602, 588, 586, 607, 587, 586, 69, 607, 588, 586, 607, 606, 586, 69, 607], []]
set_option maxRecDepth 100000 in
theorem k_X9_feeAt : xall xm_X9_feeAt xc_X9_feeAt xp_X9_feeAt = true := by decide +kernel
theorem o_X9_feeAt : ∀ q ∈ xm_X9_feeAt.2, ∃ p, xchk xm_X9_feeAt q p = true := xall_mem k_X9_feeAt
def xp_X9_fits : List (List Nat) := [[], [281], [], [296], [], [], [], [], [298], [], [], [], [565, 568, 566, 576, 569, 570, 73, 571, 568, 566, 576, 572, 566, 69, 576, 568, 566, 576, 573, 566, 69, 576, 568, 566, 576, 574, 566, 69, 576, 568, 566, 576, 567, 566, 69, 576, 568, 566, 576, 575, 566, 69, 576], []]
set_option maxRecDepth 100000 in
theorem k_X9_fits : xall xm_X9_fits xc_X9_fits xp_X9_fits = true := by decide +kernel
theorem o_X9_fits : ∀ q ∈ xm_X9_fits.2, ∃ p, xchk xm_X9_fits q p = true := xall_mem k_X9_fits
def xp_X9_mayLet : List (List Nat) := [[], [319], [241], [], [], [], [], [], [319], [], [557, 558, 559, 75, 560], [], [], [], [], [], [307], [], [], [561, 562, 563, 68, 564], [], [], [], [577, 578, 579, 68, 580], [], [319], [237], [], [], [], [], [], [], []]
set_option maxRecDepth 100000 in
theorem k_X9_mayLet : xall xm_X9_mayLet xc_X9_mayLet xp_X9_mayLet = true := by decide +kernel
theorem o_X9_mayLet : ∀ q ∈ xm_X9_mayLet.2, ∃ p, xchk xm_X9_mayLet q p = true := xall_mem k_X9_mayLet
def xp_X9_airNow : List (List Nat) := [[], [319], [], [557, 558, 559, 75, 560], [], [], [319], [], [557, 558, 559, 75, 560], [], [], [], [], [], [], [], [], [], [], [], [], [799, 801, 23, 68, 802], []]
set_option maxRecDepth 100000 in
theorem k_X9_airNow : xall xm_X9_airNow xc_X9_airNow xp_X9_airNow = true := by decide +kernel
theorem o_X9_airNow : ∀ q ∈ xm_X9_airNow.2, ∃ p, xchk xm_X9_airNow q p = true := xall_mem k_X9_airNow
def xp_X9_airOf : List (List Nat) := [[], [], [], [319], [228], [803, 654, 655, 68, 656], [], [], [], [319], [228], [803, 654, 655, 68, 656], [], [], [], [], [], []]
set_option maxRecDepth 100000 in
theorem k_X9_airOf : xall xm_X9_airOf xc_X9_airOf xp_X9_airOf = true := by decide +kernel
theorem o_X9_airOf : ∀ q ∈ xm_X9_airOf.2, ∃ p, xchk xm_X9_airOf q p = true := xall_mem k_X9_airOf
def xp_X9_fewestForAir : List (List Nat) := [[], [], [], [], [], [319], [], [557, 558, 559, 75, 560], [], [], [319], [], [557, 558, 559, 75, 560], [], [], [], [], [], [], [], [283], [], [], [], [], [], [283], [], [], [], [], [], [], [], [799, 801, 23, 68, 802], [], [], [], [], [], [307], [], [], [561, 562, 563, 68, 564], [], [], [], [], [307], [], [], [561, 562, 563, 68, 564], [], [], [], [], [], [], [], [], [], [], [], [], [], [], [], [], [], [], [], [], [], [], [], [], [], [], [], [], [], [], [], [], [], [812, 813, 83, 814], [], [], [], [], [], [], []]
set_option maxRecDepth 100000 in
theorem k_X9_fewestForAir : xall xm_X9_fewestForAir xc_X9_fewestForAir xp_X9_fewestForAir = true := by decide +kernel
theorem o_X9_fewestForAir : ∀ q ∈ xm_X9_fewestForAir.2, ∃ p, xchk xm_X9_fewestForAir q p = true := xall_mem k_X9_fewestForAir
def xp_X9_digestFrom : List (List Nat) := [[], [], [], [], [283], [], [940], [], [], [], [296], [], [], [], [], [], [940], [], [], [], [298], [], [], [], [], [], [940], [], [], [], [300], [], [], [], [], [], [940], [], [], [], [302], [], [], [], [], [], [940], [], [], [], [319], [241], [], [], [], [], [], [940], [], [], [], [304], [], [], [], [], [], [], [], [], [], [], [], [287], [], [940], [], [], [], [307], [], [], [], [], [], [940], [], [], [], [319], [237], [], [], [], [], [], [940], [], [], [], [310], [], [], [], [], [], [], [], [], [], [], [], [319], [233], [], [940], [], [], [], [319], [243], [], [], [], [], [], [940], [], [], [], [319], [245], [], [], [], [], [], [940], [], [], [], [319], [247], [], [], [], [], [], [], [], [], [], [], [], [291], [], [940], [], [], [], [313], [], [], [], [], [], [940], [], [], [], [315], [], [], [], [], [], [940], [], [], [], [317], [], [], [], [], [], [], [], [], []]
set_option maxRecDepth 100000 in
theorem k_X9_digestFrom : xall xm_X9_digestFrom xc_X9_digestFrom xp_X9_digestFrom = true := by decide +kernel
theorem o_X9_digestFrom : ∀ q ∈ xm_X9_digestFrom.2, ∃ p, xchk xm_X9_digestFrom q p = true := xall_mem k_X9_digestFrom
def xp_X10_init : List (List Nat) := [[], [189, 180, 69, 181], []]
set_option maxRecDepth 100000 in
theorem k_X10_init : xall xm_X10_init xc_X10_init xp_X10_init = true := by decide +kernel
theorem o_X10_init : ∀ q ∈ xm_X10_init.2, ∃ p, xchk xm_X10_init q p = true := xall_mem k_X10_init
def xp_X10_showing : List (List Nat) := [[], [], [], [], [], [], [676, 677, 83, 678], []]
set_option maxRecDepth 100000 in
theorem k_X10_showing : xall xm_X10_showing xc_X10_showing xp_X10_showing = true := by decide +kernel
theorem o_X10_showing : ∀ q ∈ xm_X10_showing.2, ∃ p, xchk xm_X10_showing q p = true := xall_mem k_X10_showing
def xp_X11_init : List (List Nat) := [[], [89, 90, 91], [], [], [92, 93], [359], [], [94, 95, 65], [], [96, 97, 65, 98], [360], [], [123, 124, 66], [], [125, 126, 66, 127], [361], [], [153, 154, 67], [], [155, 156, 67, 157], [362], [], [], [122], [363], [], [92, 171, 68], [], [172, 173, 68, 174], [364], [], [92, 171, 68], [], [172, 173, 68, 174], [365], [], [], [366], [], [], [367], []]
set_option maxRecDepth 100000 in
theorem k_X11_init : xall xm_X11_init xc_X11_init xp_X11_init = true := by decide +kernel
theorem o_X11_init : ∀ q ∈ xm_X11_init.2, ∃ p, xchk xm_X11_init q p = true := xall_mem k_X11_init
def xp_X11_shop : List (List Nat) := [[], [364], [284], [], [], [364], [391, 267, 268, 68, 269], [], []]
set_option maxRecDepth 100000 in
theorem k_X11_shop : xall xm_X11_shop xc_X11_shop xp_X11_shop = true := by decide +kernel
theorem o_X11_shop : ∀ q ∈ xm_X11_shop.2, ∃ p, xchk xm_X11_shop q p = true := xall_mem k_X11_shop
def xp_X11_view : List (List Nat) := [[], [], [], [396, 397, 64, 398], [], [], [], [], [396, 397, 64, 398], [], [], [], [], [396, 397, 64, 398], [], [], [399, 400, 64, 401], [], [], [], [402, 404, 0, 64, 405], [], [], [364], [284], [], [], [], [], [402, 404, 0, 64, 405], [], [], [364], [], [], [], [], [406, 407, 408, 68, 409], [], [364], [284], [], [], []]
set_option maxRecDepth 100000 in
theorem k_X11_view : xall xm_X11_view xc_X11_view xp_X11_view = true := by decide +kernel
theorem o_X11_view : ∀ q ∈ xm_X11_view.2, ∃ p, xchk xm_X11_view q p = true := xall_mem k_X11_view
def xp_X11_renter : List (List Nat) := [[], [], [], [414, 415, 64, 416], [], [], [], [402, 404, 0, 64, 405], [], [], [364], [288], [], [], [], [], [402, 404, 0, 64, 405], [], [], [364], [], [], [], [417, 418, 419, 68, 420], [], [364], [288], [], [], []]
set_option maxRecDepth 100000 in
theorem k_X11_renter : xall xm_X11_renter xc_X11_renter xp_X11_renter = true := by decide +kernel
theorem o_X11_renter : ∀ q ∈ xm_X11_renter.2, ∃ p, xchk xm_X11_renter q p = true := xall_mem k_X11_renter
def xp_X11_things : List (List Nat) := [[], [], [425, 427, 1, 64, 428], [], [], [], [], [396, 397, 64, 398], [], [], [], [402, 404, 0, 64, 405], [], [], [364], [305], [], [], [], [], [364], [305], [], [], [], [], []]
set_option maxRecDepth 100000 in
theorem k_X11_things : xall xm_X11_things xc_X11_things xp_X11_things = true := by decide +kernel
theorem o_X11_things : ∀ q ∈ xm_X11_things.2, ∃ p, xchk xm_X11_things q p = true := xall_mem k_X11_things
def xp_X11_type : List (List Nat) := [[], [], [], [396, 397, 64, 398], [], [], [], [402, 404, 0, 64, 405], [], [], [360], [103], [], [], [], [], [402, 404, 0, 64, 405], [], [], [360], [], [], [433, 434, 435, 65, 436], [], [360], [103], []]
set_option maxRecDepth 100000 in
theorem k_X11_type : xall xm_X11_type xc_X11_type xp_X11_type = true := by decide +kernel
theorem o_X11_type : ∀ q ∈ xm_X11_type.2, ∃ p, xchk xm_X11_type q p = true := xall_mem k_X11_type
def xp_X11_clear : List (List Nat) := [[], [360], [103], [], [], [360], [], [103], [], []]
set_option maxRecDepth 100000 in
theorem k_X11_clear : xall xm_X11_clear xc_X11_clear xp_X11_clear = true := by decide +kernel
theorem o_X11_clear : ∀ q ∈ xm_X11_clear.2, ∃ p, xchk xm_X11_clear q p = true := xall_mem k_X11_clear
def xp_X11_read : List (List Nat) := [[], [360], [], [365], [445, 446, 447, 65, 448], [], [], [], [], [], [], [360], [100], [], [], [], [364], [], [], [], [365], [364], [], [], [365], [], []]
set_option maxRecDepth 100000 in
theorem k_X11_read : xall xm_X11_read xc_X11_read xp_X11_read = true := by decide +kernel
theorem o_X11_read : ∀ q ∈ xm_X11_read.2, ∃ p, xchk xm_X11_read q p = true := xall_mem k_X11_read
def xp_X11_let : List (List Nat) := [[], [], [425, 427, 1, 64, 428], [], [], [], [549, 551, 12, 64, 552], [], [], [], [402, 404, 0, 64, 405], [], [], [364], [], [], [553, 554, 555, 68, 556], [], [], [], [402, 404, 0, 64, 405], [], [], [364], [608, 609, 610, 68, 611], [], [364], [], [623, 578, 579, 68, 580], [], [], [364], [322], [], [], [], [624, 625, 626, 75, 627], [], []]
set_option maxRecDepth 100000 in
theorem k_X11_let : xall xm_X11_let xc_X11_let xp_X11_let = true := by decide +kernel
theorem o_X11_let : ∀ q ∈ xm_X11_let.2, ∃ p, xchk xm_X11_let q p = true := xall_mem k_X11_let
def xp_X11_night : List (List Nat) := [[], [364], [608, 609, 610, 68, 611], [], [364], [322], [636, 275, 276, 75, 277], [], [364], [322], [], [227], [], [], [227], [], [364], [322], [227], []]
set_option maxRecDepth 100000 in
theorem k_X11_night : xall xm_X11_night xc_X11_night xp_X11_night = true := by decide +kernel
theorem o_X11_night : ∀ q ∈ xm_X11_night.2, ∃ p, xchk xm_X11_night q p = true := xall_mem k_X11_night
def xp_X11_undo : List (List Nat) := [[], [364], [295], [], [], [], [402, 404, 0, 64, 405], [], [], [364], [641, 642, 643, 68, 644], [], [364], [322], [231], []]
set_option maxRecDepth 100000 in
theorem k_X11_undo : xall xm_X11_undo xc_X11_undo xp_X11_undo = true := by decide +kernel
theorem o_X11_undo : ∀ q ∈ xm_X11_undo.2, ∃ p, xchk xm_X11_undo q p = true := xall_mem k_X11_undo
def xp_X11_of : List (List Nat) := [[], [], [425, 427, 1, 64, 428], [], [], [649, 651, 15, 64, 652], [], [], [], [], [364], [297], [], [], [], [], [364], [299], [], [], [], [], [364], [301], [], [], [], [], [364], [303], [], [], [], [], [364], [], [], [364], [322], [227], [653, 654, 655, 68, 656], [], [], [364], [], [623, 578, 579, 68, 580], [], [], [364], [322], [240], [], [], [], [], [364], [305], [], [], [], [], [649, 651, 15, 64, 652], []]
set_option maxRecDepth 100000 in
theorem k_X11_of : xall xm_X11_of xc_X11_of xp_X11_of = true := by decide +kernel
theorem o_X11_of : ∀ q ∈ xm_X11_of.2, ∃ p, xchk xm_X11_of q p = true := xall_mem k_X11_of
def xp_X11_about : List (List Nat) := [[], [], [549, 551, 12, 64, 552], [], [], [649, 651, 15, 64, 652], [], [], [], [], [364], [309], [], [], [], [], [364], [322], [238], [], [], [], [], [364], [312], [], [], [], [], [364], [322], [], [685, 558, 559, 75, 560], [], [], [649, 651, 15, 64, 652], []]
set_option maxRecDepth 100000 in
theorem k_X11_about : xall xm_X11_about xc_X11_about xp_X11_about = true := by decide +kernel
theorem o_X11_about : ∀ q ∈ xm_X11_about.2, ∃ p, xchk xm_X11_about q p = true := xall_mem k_X11_about
def xp_X11_shows : List (List Nat) := [[], [], [425, 427, 1, 64, 428], [], [], [690, 691, 64, 692], [], [], [], [402, 404, 0, 64, 405], [], [], [364], [], [], [653, 654, 655, 68, 656], []]
set_option maxRecDepth 100000 in
theorem k_X11_shows : xall xm_X11_shows xc_X11_shows xp_X11_shows = true := by decide +kernel
theorem o_X11_shows : ∀ q ∈ xm_X11_shows.2, ∃ p, xchk xm_X11_shows q p = true := xall_mem k_X11_shows
def xp_X11_suits : List (List Nat) := [[], [], [425, 427, 1, 64, 428], [], [], [], [549, 551, 12, 64, 552], [], [], [690, 691, 64, 692], [], [], [], [402, 404, 0, 64, 405], [], [], [361], [], [364], [], [697, 698, 699, 66, 700], [], [361], [], [], [712, 713, 714, 66, 715], [], [], [], [], []]
set_option maxRecDepth 100000 in
theorem k_X11_suits : xall xm_X11_suits xc_X11_suits xp_X11_suits = true := by decide +kernel
theorem o_X11_suits : ∀ q ∈ xm_X11_suits.2, ∃ p, xchk xm_X11_suits q p = true := xall_mem k_X11_suits
def xp_X11_best : List (List Nat) := [[], [690, 691, 64, 692], [], [], [], [], [], [], [549, 551, 12, 64, 552], [], [], [649, 651, 15, 64, 652], [], [], [361], [], [364], [], [697, 698, 699, 66, 700], [], [361], [720, 721, 722, 66, 723], [], [], [], [], [], [732, 733, 66, 734], [], [], [361], [], [735, 736, 737, 66, 738], []]
set_option maxRecDepth 100000 in
theorem k_X11_best : xall xm_X11_best xc_X11_best xp_X11_best = true := by decide +kernel
theorem o_X11_best : ∀ q ∈ xm_X11_best.2, ∃ p, xchk xm_X11_best q p = true := xall_mem k_X11_best
def xp_X11_money : List (List Nat) := [[], [690, 691, 64, 692], [], [], [], [402, 404, 0, 64, 405], [], [], [361], [], [364], [], [697, 698, 699, 66, 700], [], [361], [720, 721, 722, 66, 723], [747, 748, 66, 749], []]
set_option maxRecDepth 100000 in
theorem k_X11_money : xall xm_X11_money xc_X11_money xp_X11_money = true := by decide +kernel
theorem o_X11_money : ∀ q ∈ xm_X11_money.2, ∃ p, xchk xm_X11_money q p = true := xall_mem k_X11_money
def xp_X11_come : List (List Nat) := [[], [690, 691, 64, 692], [], [], [], [], [396, 397, 64, 398], [], [], [], [402, 404, 0, 64, 405], [], [], [361], [], [364], [], [697, 698, 699, 66, 700], [], [361], [], [754, 755, 756, 66, 757], [], [], [], [], [732, 733, 66, 734], [], [], [747, 748, 66, 749], [], [], [361], [720, 721, 722, 66, 723], [732, 733, 66, 734], [], [732, 733, 66, 734], [], []]
set_option maxRecDepth 100000 in
theorem k_X11_come : xall xm_X11_come xc_X11_come xp_X11_come = true := by decide +kernel
theorem o_X11_come : ∀ q ∈ xm_X11_come.2, ∃ p, xchk xm_X11_come q p = true := xall_mem k_X11_come

def xp_X11_more : List (List Nat) := [[], [690, 691, 64, 692], [], [], [], [], [414, 415, 64, 416], [], [], [], [402, 404, 0, 64, 405], [], [], [364], [288], [], [], [], [], [402, 404, 0, 64, 405], [], [], [361], [], [364], [], [697, 698, 699, 66, 700], [], [361], [720, 721, 722, 66, 723], [732, 733, 66, 734], [], [], [361], [], [364], [], [], [], [766, 704, 705, 66, 706], [], [361], [720, 721, 722, 66, 723], [732, 733, 66, 734], [], [], []]
set_option maxRecDepth 100000 in
theorem k_X11_more : xall xm_X11_more xc_X11_more xp_X11_more = true := by decide +kernel
theorem o_X11_more : ∀ q ∈ xm_X11_more.2, ∃ p, xchk xm_X11_more q p = true := xall_mem k_X11_more
def xp_X11_changed : List (List Nat) := [[], [690, 691, 64, 692], [], [], [], [425, 427, 1, 64, 428], [], [], [], [402, 404, 0, 64, 405], [], [], [361], [], [364], [], [], [771, 772, 773, 66, 774], []]
set_option maxRecDepth 100000 in
theorem k_X11_changed : xall xm_X11_changed xc_X11_changed xp_X11_changed = true := by decide +kernel
theorem o_X11_changed : ∀ q ∈ xm_X11_changed.2, ∃ p, xchk xm_X11_changed q p = true := xall_mem k_X11_changed
def xp_X11_air : List (List Nat) := [[], [], [791, 793, 22, 64, 794], [], [], [], [402, 404, 0, 64, 405], [], [], [364], [], [], [], [], [795, 796, 797, 68, 798], []]
set_option maxRecDepth 100000 in
theorem k_X11_air : xall xm_X11_air xc_X11_air xp_X11_air = true := by decide +kernel
theorem o_X11_air : ∀ q ∈ xm_X11_air.2, ∃ p, xchk xm_X11_air q p = true := xall_mem k_X11_air
def xp_X11_bring : List (List Nat) := [[], [], [791, 793, 22, 64, 794], [], [], [], [], [], [], [399, 400, 64, 401], [], [], [], [], [396, 397, 64, 398], [], [], [], [402, 404, 0, 64, 405], [], [], [364], [], [], [808, 809, 810, 68, 811], [], [], [], [], [], [], [], [], [], [], [], [], [], [], [], []]
set_option maxRecDepth 100000 in
theorem k_X11_bring : xall xm_X11_bring xc_X11_bring xp_X11_bring = true := by decide +kernel
theorem o_X11_bring : ∀ q ∈ xm_X11_bring.2, ∃ p, xchk xm_X11_bring q p = true := xall_mem k_X11_bring
def xp_X11_left : List (List Nat) := [[], [], [425, 427, 1, 64, 428], [], [], [], [], [396, 397, 64, 398], [], [], [], [], [396, 397, 64, 398], [], [], [364], [305], [], [], [], [], [], [], [], [], [649, 651, 15, 64, 652], [], [], [], [], [364], [322], [], [819, 820, 821, 75, 822], [], [], [364], [322], [], [823, 824, 825, 75, 826], []]
set_option maxRecDepth 100000 in
theorem k_X11_left : xall xm_X11_left xc_X11_left xp_X11_left = true := by decide +kernel
theorem o_X11_left : ∀ q ∈ xm_X11_left.2, ∃ p, xchk xm_X11_left q p = true := xall_mem k_X11_left
def xp_X11_reading : List (List Nat) := [[], [], [425, 427, 1, 64, 428], [], [], [690, 691, 64, 692], [], [], [399, 400, 64, 401], [], [], [], [402, 404, 0, 64, 405], [], [], [364], [293], [], [], [], [], [402, 404, 0, 64, 405], [], [], [364], [], [], [], [831, 832, 833, 68, 834], [], [364], [293], []]
set_option maxRecDepth 100000 in
theorem k_X11_reading : xall xm_X11_reading xc_X11_reading xp_X11_reading = true := by decide +kernel
theorem o_X11_reading : ∀ q ∈ xm_X11_reading.2, ∃ p, xchk xm_X11_reading q p = true := xall_mem k_X11_reading
def xp_X11_forget : List (List Nat) := [[], [364], [293], [], [], [364], [], [293], [], []]
set_option maxRecDepth 100000 in
theorem k_X11_forget : xall xm_X11_forget xc_X11_forget xp_X11_forget = true := by decide +kernel
theorem o_X11_forget : ∀ q ∈ xm_X11_forget.2, ∃ p, xchk xm_X11_forget q p = true := xall_mem k_X11_forget
def xp_X11_is : List (List Nat) := [[], [], [425, 427, 1, 64, 428], [], [], [], [], [396, 397, 64, 398], [], [], [], [402, 404, 0, 64, 405], [], [], [362], [], [364], [], [843, 844, 845, 67, 846], [], [], [], [362], [854, 855, 856, 67, 857], [], [], [362], [160], []]
set_option maxRecDepth 100000 in
theorem k_X11_is : xall xm_X11_is xc_X11_is xp_X11_is = true := by decide +kernel
theorem o_X11_is : ∀ q ∈ xm_X11_is.2, ∃ p, xchk xm_X11_is q p = true := xall_mem k_X11_is
def xp_X11_look : List (List Nat) := [[], [], [425, 427, 1, 64, 428], [], [], [], [402, 404, 0, 64, 405], [], [], [362], [], [364], [], [843, 844, 845, 67, 846], [], [362], [], [364], [862, 863, 864, 67, 865], []]
set_option maxRecDepth 100000 in
theorem k_X11_look : xall xm_X11_look xc_X11_look xp_X11_look = true := by decide +kernel
theorem o_X11_look : ∀ q ∈ xm_X11_look.2, ∃ p, xchk xm_X11_look q p = true := xall_mem k_X11_look
def xp_X11_odds : List (List Nat) := [[], [], [], [396, 397, 64, 398], [], [], [], [402, 404, 0, 64, 405], [], [], [361], [], [364], [], [364], [322], [227], [697, 698, 699, 66, 700], [], [361], [], [876, 877, 878, 66, 879], [], [], [], [], [], [], [], [364], [288], [], [], [881], [], [], [], [], [], [], [882, 883, 64, 884], [], [], [], [], [], [366], [], [], [], [], [367], [], []]
set_option maxRecDepth 100000 in
theorem k_X11_odds : xall xm_X11_odds xc_X11_odds xp_X11_odds = true := by decide +kernel
theorem o_X11_odds : ∀ q ∈ xm_X11_odds.2, ∃ p, xchk xm_X11_odds q p = true := xall_mem k_X11_odds
def xp_X11_drawn : List (List Nat) := [[], [], [889], [396, 397, 64, 398], [], [], [], [], [396, 397, 64, 398], [], [], [], [], [396, 397, 64, 398], [], [], [], [402, 404, 0, 64, 405], [], [], [361], [], [364], [], [], [], [890, 891, 892, 66, 893], []]
set_option maxRecDepth 100000 in
theorem k_X11_drawn : xall xm_X11_drawn xc_X11_drawn xp_X11_drawn = true := by decide +kernel
theorem o_X11_drawn : ∀ q ∈ xm_X11_drawn.2, ∃ p, xchk xm_X11_drawn q p = true := xall_mem k_X11_drawn
def xp_X11_part : List (List Nat) := [[], [], [], [366], [], [], [367], [], [], [], [402, 404, 0, 64, 405], [], []]
set_option maxRecDepth 100000 in
theorem k_X11_part : xall xm_X11_part xc_X11_part xp_X11_part = true := by decide +kernel
theorem o_X11_part : ∀ q ∈ xm_X11_part.2, ∃ p, xchk xm_X11_part q p = true := xall_mem k_X11_part
def xp_X11_image : List (List Nat) := [[], [], [], [396, 397, 64, 398], [], [], [], [402, 404, 0, 64, 405], [], [], [359], [], [], [], [], [359], [], [92, 171, 68], [], [172, 173, 68, 174], [], [], [359], [], [], [], [364], [908, 909, 910, 68, 911], [], []]
set_option maxRecDepth 100000 in
theorem k_X11_image : xall xm_X11_image xc_X11_image xp_X11_image = true := by decide +kernel
theorem o_X11_image : ∀ q ∈ xm_X11_image.2, ∃ p, xchk xm_X11_image q p = true := xall_mem k_X11_image
def xp_X11_from : List (List Nat) := [[], [], [], [396, 397, 64, 398], [], [], [], [402, 404, 0, 64, 405], [], [], [359], [], [], [], [], [], [402, 404, 0, 64, 405], [], [], [364], [], [359], [], [], [908, 909, 910, 68, 911], [], []]
set_option maxRecDepth 100000 in
theorem k_X11_from : xall xm_X11_from xc_X11_from xp_X11_from = true := by decide +kernel
theorem o_X11_from : ∀ q ∈ xm_X11_from.2, ∃ p, xchk xm_X11_from q p = true := xall_mem k_X11_from
def xp_X11_status : List (List Nat) := [[], [], [], [396, 397, 64, 398], [], [], [], [402, 404, 0, 64, 405], [], [], [], [], [363], [], [], []]
set_option maxRecDepth 100000 in
theorem k_X11_status : xall xm_X11_status xc_X11_status xp_X11_status = true := by decide +kernel
theorem o_X11_status : ∀ q ∈ xm_X11_status.2, ∃ p, xchk xm_X11_status q p = true := xall_mem k_X11_status
def xp_X11_count : List (List Nat) := [[], [], [], [364], [284], [], [], [364], [288], [], [], [364], [322], [227], [], [], [364], [322], [231], [], [], [364], [322], [925, 926, 927, 75, 928], [], [], [364], [322], [234], [], [], [364], [293], [], [], [364], [295], [], [], [360], [103], [], [], [], [402, 404, 0, 64, 405], []]
set_option maxRecDepth 100000 in
theorem k_X11_count : xall xm_X11_count xc_X11_count xp_X11_count = true := by decide +kernel
theorem o_X11_count : ∀ q ∈ xm_X11_count.2, ∃ p, xchk xm_X11_count q p = true := xall_mem k_X11_count
def xp_X11_digest : List (List Nat) := [[933], [], [], [], [], [], [], [934], [], [], [], [], [935, 922, 923, 64, 924], [], [], [], [], [], [], [364], [], [936, 937, 938, 68, 939], [], [934], [], [], [], [366], [], [], [934], [], [], [], [367], [], []]
set_option maxRecDepth 100000 in
theorem k_X11_digest : xall xm_X11_digest xc_X11_digest xp_X11_digest = true := by decide +kernel
theorem o_X11_digest : ∀ q ∈ xm_X11_digest.2, ∃ p, xchk xm_X11_digest q p = true := xall_mem k_X11_digest
def xp_X11_within : List (List Nat) := [[], [], [], [], [], [], [], [], [], []]
set_option maxRecDepth 100000 in
theorem k_X11_within : xall xm_X11_within xc_X11_within xp_X11_within = true := by decide +kernel
theorem o_X11_within : ∀ q ∈ xm_X11_within.2, ∃ p, xchk xm_X11_within q p = true := xall_mem k_X11_within
def xp_X11_isWeather : List (List Nat) := [[], [], [], [396, 397, 64, 398], []]
set_option maxRecDepth 100000 in
theorem k_X11_isWeather : xall xm_X11_isWeather xc_X11_isWeather xp_X11_isWeather = true := by decide +kernel
theorem o_X11_isWeather : ∀ q ∈ xm_X11_isWeather.2, ∃ p, xchk xm_X11_isWeather q p = true := xall_mem k_X11_isWeather
def xp_X11_isEvening : List (List Nat) := [[], [], [], [396, 397, 64, 398], []]
set_option maxRecDepth 100000 in
theorem k_X11_isEvening : xall xm_X11_isEvening xc_X11_isEvening xp_X11_isEvening = true := by decide +kernel
theorem o_X11_isEvening : ∀ q ∈ xm_X11_isEvening.2, ∃ p, xchk xm_X11_isEvening q p = true := xall_mem k_X11_isEvening
def xp_X11_isRenterTold : List (List Nat) := [[], [], [], [396, 397, 64, 398], [], [], [], [], [396, 397, 64, 398], [], [], [], [], [396, 397, 64, 398], [], [], [], [], []]
set_option maxRecDepth 100000 in
theorem k_X11_isRenterTold : xall xm_X11_isRenterTold xc_X11_isRenterTold xp_X11_isRenterTold = true := by decide +kernel
theorem o_X11_isRenterTold : ∀ q ∈ xm_X11_isRenterTold.2, ∃ p, xchk xm_X11_isRenterTold q p = true := xall_mem k_X11_isRenterTold
def xp_X11_isView : List (List Nat) := [[], [], [], [364], [284], [], [], [396, 397, 64, 398], []]
set_option maxRecDepth 100000 in
theorem k_X11_isView : xall xm_X11_isView xc_X11_isView xp_X11_isView = true := by decide +kernel
theorem o_X11_isView : ∀ q ∈ xm_X11_isView.2, ∃ p, xchk xm_X11_isView q p = true := xall_mem k_X11_isView
def xp_X11_isRenter : List (List Nat) := [[], [], [], [364], [288], [], [], [396, 397, 64, 398], []]
set_option maxRecDepth 100000 in
theorem k_X11_isRenter : xall xm_X11_isRenter xc_X11_isRenter xp_X11_isRenter = true := by decide +kernel
theorem o_X11_isRenter : ∀ q ∈ xm_X11_isRenter.2, ∃ p, xchk xm_X11_isRenter q p = true := xall_mem k_X11_isRenter
def xp_X11_isPair : List (List Nat) := [[], [], [549, 551, 12, 64, 552], [], [], [], [], [], [549, 551, 12, 64, 552], [], [], [], [], []]
set_option maxRecDepth 100000 in
theorem k_X11_isPair : xall xm_X11_isPair xc_X11_isPair xp_X11_isPair = true := by decide +kernel
theorem o_X11_isPair : ∀ q ∈ xm_X11_isPair.2, ∃ p, xchk xm_X11_isPair q p = true := xall_mem k_X11_isPair
def xp_X11_refuse : List (List Nat) := [[], [], [], [], [], [], [], [396, 397, 64, 398], [], [], [363], [], [], [], [], [], [], [], []]
set_option maxRecDepth 100000 in
theorem k_X11_refuse : xall xm_X11_refuse xc_X11_refuse xp_X11_refuse = true := by decide +kernel
theorem o_X11_refuse : ∀ q ∈ xm_X11_refuse.2, ∃ p, xchk xm_X11_refuse q p = true := xall_mem k_X11_refuse
def xp_X11_refuseApart : List (List Nat) := [[], [], [402, 404, 0, 64, 405], [], [], []]
set_option maxRecDepth 100000 in
theorem k_X11_refuseApart : xall xm_X11_refuseApart xc_X11_refuseApart xp_X11_refuseApart = true := by decide +kernel
theorem o_X11_refuseApart : ∀ q ∈ xm_X11_refuseApart.2, ∃ p, xchk xm_X11_refuseApart q p = true := xall_mem k_X11_refuseApart
def xp_X11_greatestCommon : List (List Nat) := [[], [], [], [], [], [], [], [], [], [], [], [], [], [], [], [], [], [], [], [], [], [], [], [], [], [], []]
set_option maxRecDepth 100000 in
theorem k_X11_greatestCommon : xall xm_X11_greatestCommon xc_X11_greatestCommon xp_X11_greatestCommon = true := by decide +kernel
theorem o_X11_greatestCommon : ∀ q ∈ xm_X11_greatestCommon.2, ∃ p, xchk xm_X11_greatestCommon q p = true := xall_mem k_X11_greatestCommon
def xp_X12_init : List (List Nat) := [[], [946, 90, 91], [], [], [122], [947], [], [], [122], [948], [], [], [170], [949], [], [], [122], [950], [], [], [952], [], [], [122], [953], [], [], [122], [955], [], [], [122], [956], [], [], [122], [957], [], [], [122], [958], [], [], [122], [959], [], [], [122], [960], [], [], [122], [965], [], [], [122], [966], [], [], [122], [972], [], [], [122], [973], []]
set_option maxRecDepth 100000 in
theorem k_X12_init : xall xm_X12_init xc_X12_init xp_X12_init = true := by decide +kernel
theorem o_X12_init : ∀ q ∈ xm_X12_init.2, ∃ p, xchk xm_X12_init q p = true := xall_mem k_X12_init
def xp_X12_in : List (List Nat) := [[], [], [], [], [], [], [], [], [], [], [], []]
set_option maxRecDepth 100000 in
theorem k_X12_in : xall xm_X12_in xc_X12_in xp_X12_in = true := by decide +kernel
theorem o_X12_in : ∀ q ∈ xm_X12_in.2, ∃ p, xchk xm_X12_in q p = true := xall_mem k_X12_in
def xp_X12_bad : List (List Nat) := [[], [950], [], [], [], [], [], [], [], []]
set_option maxRecDepth 100000 in
theorem k_X12_bad : xall xm_X12_bad xc_X12_bad xp_X12_bad = true := by decide +kernel
theorem o_X12_bad : ∀ q ∈ xm_X12_bad.2, ∃ p, xchk xm_X12_bad q p = true := xall_mem k_X12_bad
def xp_X12_no : List (List Nat) := [[], [950], [], [], [], [], [], [], [], []]
set_option maxRecDepth 100000 in
theorem k_X12_no : xall xm_X12_no xc_X12_no xp_X12_no = true := by decide +kernel
theorem o_X12_no : ∀ q ∈ xm_X12_no.2, ∃ p, xchk xm_X12_no q p = true := xall_mem k_X12_no
def xp_X12_full : List (List Nat) := [[], [950], [], [], [], [], [], [], [], []]
set_option maxRecDepth 100000 in
theorem k_X12_full : xall xm_X12_full xc_X12_full xp_X12_full = true := by decide +kernel
theorem o_X12_full : ∀ q ∈ xm_X12_full.2, ∃ p, xchk xm_X12_full q p = true := xall_mem k_X12_full
def xp_X12_begin : List (List Nat) := [[], [], [], [], [], [], [], [], [], [], [], []]
set_option maxRecDepth 100000 in
theorem k_X12_begin : xall xm_X12_begin xc_X12_begin xp_X12_begin = true := by decide +kernel
theorem o_X12_begin : ∀ q ∈ xm_X12_begin.2, ∃ p, xchk xm_X12_begin q p = true := xall_mem k_X12_begin
def xp_X12_views : List (List Nat) := [[], [947], [], [], []]
set_option maxRecDepth 100000 in
theorem k_X12_views : xall xm_X12_views xc_X12_views xp_X12_views = true := by decide +kernel
theorem o_X12_views : ∀ q ∈ xm_X12_views.2, ∃ p, xchk xm_X12_views q p = true := xall_mem k_X12_views
def xp_X12_renters : List (List Nat) := [[], [947], [], [], []]
set_option maxRecDepth 100000 in
theorem k_X12_renters : xall xm_X12_renters xc_X12_renters xp_X12_renters = true := by decide +kernel
theorem o_X12_renters : ∀ q ∈ xm_X12_renters.2, ∃ p, xchk xm_X12_renters q p = true := xall_mem k_X12_renters
def xp_X12_isView : List (List Nat) := [[], [], [], [], [1033, 1035, 25, 77, 1036], [], [], [], [1048, 1049, 77, 1050], []]
set_option maxRecDepth 100000 in
theorem k_X12_isView : xall xm_X12_isView xc_X12_isView xp_X12_isView = true := by decide +kernel
theorem o_X12_isView : ∀ q ∈ xm_X12_isView.2, ∃ p, xchk xm_X12_isView q p = true := xall_mem k_X12_isView
def xp_X12_isRenter : List (List Nat) := [[], [], [], [], [1076, 1078, 28, 77, 1079], [], [], [], [1048, 1049, 77, 1050], []]
set_option maxRecDepth 100000 in
theorem k_X12_isRenter : xall xm_X12_isRenter xc_X12_isRenter xp_X12_isRenter = true := by decide +kernel
theorem o_X12_isRenter : ∀ q ∈ xm_X12_isRenter.2, ∃ p, xchk xm_X12_isRenter q p = true := xall_mem k_X12_isRenter
def xp_X12_isEvening : List (List Nat) := [[], [], [], [1052], [1048, 1049, 77, 1050], []]
set_option maxRecDepth 100000 in
theorem k_X12_isEvening : xall xm_X12_isEvening xc_X12_isEvening xp_X12_isEvening = true := by decide +kernel
theorem o_X12_isEvening : ∀ q ∈ xm_X12_isEvening.2, ∃ p, xchk xm_X12_isEvening q p = true := xall_mem k_X12_isEvening
def xp_X12_isWeather : List (List Nat) := [[], [], [], [1047], [1048, 1049, 77, 1050], []]
set_option maxRecDepth 100000 in
theorem k_X12_isWeather : xall xm_X12_isWeather xc_X12_isWeather xp_X12_isWeather = true := by decide +kernel
theorem o_X12_isWeather : ∀ q ∈ xm_X12_isWeather.2, ∃ p, xchk xm_X12_isWeather q p = true := xall_mem k_X12_isWeather
def xp_X12_viewHas : List (List Nat) := [[], [947], [], [], [], [], [], [], [], [], []]
set_option maxRecDepth 100000 in
theorem k_X12_viewHas : xall xm_X12_viewHas xc_X12_viewHas xp_X12_viewHas = true := by decide +kernel
theorem o_X12_viewHas : ∀ q ∈ xm_X12_viewHas.2, ∃ p, xchk xm_X12_viewHas q p = true := xall_mem k_X12_viewHas
def xp_X12_renterHas : List (List Nat) := [[], [947], [], [], [], [], [], [], [], [], []]
set_option maxRecDepth 100000 in
theorem k_X12_renterHas : xall xm_X12_renterHas xc_X12_renterHas xp_X12_renterHas = true := by decide +kernel
theorem o_X12_renterHas : ∀ q ∈ xm_X12_renterHas.2, ∃ p, xchk xm_X12_renterHas q p = true := xall_mem k_X12_renterHas
def xp_X12_shop : List (List Nat) := [[], [1033, 1035, 25, 77, 1036], [], [], [947], [1037, 1038, 77, 1039], [], []]
set_option maxRecDepth 100000 in
theorem k_X12_shop : xall xm_X12_shop xc_X12_shop xp_X12_shop = true := by decide +kernel
theorem o_X12_shop : ∀ q ∈ xm_X12_shop.2, ∃ p, xchk xm_X12_shop q p = true := xall_mem k_X12_shop
def xp_X12_isViewTold : List (List Nat) := [[], [], [], [1047], [1048, 1049, 77, 1050], [], [], [], [], [1051], [1048, 1049, 77, 1050], [], [], [], [], [1052], [1048, 1049, 77, 1050], [], [], [1053, 1054, 77, 1055], [], [], [], [], []]
set_option maxRecDepth 100000 in
theorem k_X12_isViewTold : xall xm_X12_isViewTold xc_X12_isViewTold xp_X12_isViewTold = true := by decide +kernel
theorem o_X12_isViewTold : ∀ q ∈ xm_X12_isViewTold.2, ∃ p, xchk xm_X12_isViewTold q p = true := xall_mem k_X12_isViewTold
def xp_X12_layView : List (List Nat) := [[], [], [], [], [], [], [], [], [], [], [], [], [], [], [], [], [], [], [], [], [], [], [], [], [], [], [], [], [], [], [], [], [], [], [], [], [], [], [], [], [], [], [], [], [], [], [], [], [], [], [], []]
set_option maxRecDepth 100000 in
theorem k_X12_layView : xall xm_X12_layView xc_X12_layView xp_X12_layView = true := by decide +kernel
theorem o_X12_layView : ∀ q ∈ xm_X12_layView.2, ∃ p, xchk xm_X12_layView q p = true := xall_mem k_X12_layView
def xp_X12_view : List (List Nat) := [[], [], [], [], [1044, 1045, 77, 1046], [], [], [], [1056, 1058, 26, 77, 1059], [], [], [1033, 1035, 25, 77, 1036], [], [], [], [1060, 1062, 27, 77, 1063], [], [], [947], [], [], [], [], [1064, 1065, 77, 1066], [], [947], [], [], [], [], [1033, 1035, 25, 77, 1036], [], [], []]
set_option maxRecDepth 100000 in
theorem k_X12_view : xall xm_X12_view xc_X12_view xp_X12_view = true := by decide +kernel
theorem o_X12_view : ∀ q ∈ xm_X12_view.2, ∃ p, xchk xm_X12_view q p = true := xall_mem k_X12_view
def xp_X12_isRenterTold : List (List Nat) := [[], [], [], [1051], [1048, 1049, 77, 1050], [], [], [], [], [1074], [1048, 1049, 77, 1050], [], [], [], [], [1075], [1048, 1049, 77, 1050], [], [], [], [], []]
set_option maxRecDepth 100000 in
theorem k_X12_isRenterTold : xall xm_X12_isRenterTold xc_X12_isRenterTold xp_X12_isRenterTold = true := by decide +kernel
theorem o_X12_isRenterTold : ∀ q ∈ xm_X12_isRenterTold.2, ∃ p, xchk xm_X12_isRenterTold q p = true := xall_mem k_X12_isRenterTold
def xp_X12_layRenter : List (List Nat) := [[], [], [], [], [], [], [], [], [], [], [], [], [], [], [], [], [], [], [], [], [], [], [], [], [], [], [], [], [], [], [], [], [], []]
set_option maxRecDepth 100000 in
theorem k_X12_layRenter : xall xm_X12_layRenter xc_X12_layRenter xp_X12_layRenter = true := by decide +kernel
theorem o_X12_layRenter : ∀ q ∈ xm_X12_layRenter.2, ∃ p, xchk xm_X12_layRenter q p = true := xall_mem k_X12_layRenter
def xp_X12_renter : List (List Nat) := [[], [], [], [1071, 1072, 77, 1073], [], [], [], [1056, 1058, 26, 77, 1059], [], [], [1076, 1078, 28, 77, 1079], [], [], [], [1060, 1062, 27, 77, 1063], [], [], [947], [], [], [], [1080, 1081, 77, 1082], [], [947], [], [], [], [], [1076, 1078, 28, 77, 1079], [], [], []]
set_option maxRecDepth 100000 in
theorem k_X12_renter : xall xm_X12_renter xc_X12_renter xp_X12_renter = true := by decide +kernel
theorem o_X12_renter : ∀ q ∈ xm_X12_renter.2, ∃ p, xchk xm_X12_renter q p = true := xall_mem k_X12_renter

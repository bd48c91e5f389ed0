def xp_X11_more : List (List Nat) := [[], [697, 698, 64, 699], [], [], [], [], [422, 423, 64, 424], [], [], [], [410, 412, 0, 64, 413], [], [], [365], [288], [], [], [], [], [410, 412, 0, 64, 413], [], [], [361], [], [365], [], [704, 705, 706, 72, 707], [], [361], [727, 728, 729, 72, 730], [739, 740, 72, 741], [], [], [361], [], [365], [], [], [], [773, 711, 712, 72, 713], [], [361], [727, 728, 729, 72, 730], [739, 740, 72, 741], [], [], []]
set_option maxRecDepth 100000 in
theorem k_X11_more : xall xm_X11_more xc_X11_more xp_X11_more = true := by decide +kernel
theorem o_X11_more : ∀ q ∈ xm_X11_more.2, ∃ p, xchk xm_X11_more q p = true := xall_mem k_X11_more
def xp_X11_changed : List (List Nat) := [[], [697, 698, 64, 699], [], [], [], [433, 435, 1, 64, 436], [], [], [], [410, 412, 0, 64, 413], [], [], [361], [], [365], [], [], [778, 779, 780, 72, 781], []]
set_option maxRecDepth 100000 in
theorem k_X11_changed : xall xm_X11_changed xc_X11_changed xp_X11_changed = true := by decide +kernel
theorem o_X11_changed : ∀ q ∈ xm_X11_changed.2, ∃ p, xchk xm_X11_changed q p = true := xall_mem k_X11_changed
def xp_X11_air : List (List Nat) := [[], [], [798, 800, 22, 64, 801], [], [], [], [410, 412, 0, 64, 413], [], [], [365], [], [], [], [], [802, 803, 804, 74, 805], []]
set_option maxRecDepth 100000 in
theorem k_X11_air : xall xm_X11_air xc_X11_air xp_X11_air = true := by decide +kernel
theorem o_X11_air : ∀ q ∈ xm_X11_air.2, ∃ p, xchk xm_X11_air q p = true := xall_mem k_X11_air
def xp_X11_bring : List (List Nat) := [[], [], [798, 800, 22, 64, 801], [], [], [], [], [], [], [407, 408, 64, 409], [], [], [], [], [404, 405, 64, 406], [], [], [], [410, 412, 0, 64, 413], [], [], [365], [], [], [815, 816, 817, 74, 818], [], [], [], [], [], [], [], [], [], [], [], [], [], [], [], []]
set_option maxRecDepth 100000 in
theorem k_X11_bring : xall xm_X11_bring xc_X11_bring xp_X11_bring = true := by decide +kernel
theorem o_X11_bring : ∀ q ∈ xm_X11_bring.2, ∃ p, xchk xm_X11_bring q p = true := xall_mem k_X11_bring
def xp_X11_left : List (List Nat) := [[], [], [433, 435, 1, 64, 436], [], [], [], [], [404, 405, 64, 406], [], [], [], [], [404, 405, 64, 406], [], [], [365], [304], [], [], [], [], [], [], [], [], [656, 658, 15, 64, 659], [], [], [], [], [365], [321], [], [824, 825, 826, 75, 827], [], [], [365], [321], [], [828, 829, 830, 75, 831], []]
set_option maxRecDepth 100000 in
theorem k_X11_left : xall xm_X11_left xc_X11_left xp_X11_left = true := by decide +kernel
theorem o_X11_left : ∀ q ∈ xm_X11_left.2, ∃ p, xchk xm_X11_left q p = true := xall_mem k_X11_left
def xp_X11_reading : List (List Nat) := [[], [], [433, 435, 1, 64, 436], [], [], [697, 698, 64, 699], [], [], [407, 408, 64, 409], [], [], [], [410, 412, 0, 64, 413], [], [], [365], [292], [], [], [], [], [410, 412, 0, 64, 413], [], [], [365], [], [], [], [836, 837, 838, 74, 839], [], [365], [292], []]
set_option maxRecDepth 100000 in
theorem k_X11_reading : xall xm_X11_reading xc_X11_reading xp_X11_reading = true := by decide +kernel
theorem o_X11_reading : ∀ q ∈ xm_X11_reading.2, ∃ p, xchk xm_X11_reading q p = true := xall_mem k_X11_reading
def xp_X11_forget : List (List Nat) := [[], [365], [292], [], [], [365], [], [292], [], []]
set_option maxRecDepth 100000 in
theorem k_X11_forget : xall xm_X11_forget xc_X11_forget xp_X11_forget = true := by decide +kernel
theorem o_X11_forget : ∀ q ∈ xm_X11_forget.2, ∃ p, xchk xm_X11_forget q p = true := xall_mem k_X11_forget
def xp_X11_is : List (List Nat) := [[], [], [433, 435, 1, 64, 436], [], [], [], [], [404, 405, 64, 406], [], [], [], [410, 412, 0, 64, 413], [], [], [362], [], [365], [], [848, 849, 850, 73, 851], [], [], [], [362], [859, 860, 861, 73, 862], [], [], [362], [202], []]
set_option maxRecDepth 100000 in
theorem k_X11_is : xall xm_X11_is xc_X11_is xp_X11_is = true := by decide +kernel
theorem o_X11_is : ∀ q ∈ xm_X11_is.2, ∃ p, xchk xm_X11_is q p = true := xall_mem k_X11_is
def xp_X11_look : List (List Nat) := [[], [], [433, 435, 1, 64, 436], [], [], [], [410, 412, 0, 64, 413], [], [], [362], [], [365], [], [848, 849, 850, 73, 851], [], [362], [], [365], [867, 868, 869, 73, 870], []]
set_option maxRecDepth 100000 in
theorem k_X11_look : xall xm_X11_look xc_X11_look xp_X11_look = true := by decide +kernel
theorem o_X11_look : ∀ q ∈ xm_X11_look.2, ∃ p, xchk xm_X11_look q p = true := xall_mem k_X11_look
def xp_X11_odds : List (List Nat) := [[], [], [], [404, 405, 64, 406], [], [], [], [410, 412, 0, 64, 413], [], [], [361], [], [365], [], [365], [321], [226], [704, 705, 706, 72, 707], [], [361], [], [881, 882, 883, 72, 884], [], [], [], [], [], [], [], [365], [288], [], [], [886], [], [], [], [], [], [], [887, 888, 64, 889], [], [], [], [], [], [368], [], [], [], [], [369], [], []]
set_option maxRecDepth 100000 in
theorem k_X11_odds : xall xm_X11_odds xc_X11_odds xp_X11_odds = true := by decide +kernel
theorem o_X11_odds : ∀ q ∈ xm_X11_odds.2, ∃ p, xchk xm_X11_odds q p = true := xall_mem k_X11_odds
def xp_X11_drawn : List (List Nat) := [[], [], [894], [404, 405, 64, 406], [], [], [], [], [404, 405, 64, 406], [], [], [], [], [404, 405, 64, 406], [], [], [], [410, 412, 0, 64, 413], [], [], [361], [], [365], [], [], [], [895, 896, 897, 72, 898], []]
set_option maxRecDepth 100000 in
theorem k_X11_drawn : xall xm_X11_drawn xc_X11_drawn xp_X11_drawn = true := by decide +kernel
theorem o_X11_drawn : ∀ q ∈ xm_X11_drawn.2, ∃ p, xchk xm_X11_drawn q p = true := xall_mem k_X11_drawn
def xp_X11_part : List (List Nat) := [[], [], [], [368], [], [], [369], [], [], [], [410, 412, 0, 64, 413], [], []]
set_option maxRecDepth 100000 in
theorem k_X11_part : xall xm_X11_part xc_X11_part xp_X11_part = true := by decide +kernel
theorem o_X11_part : ∀ q ∈ xm_X11_part.2, ∃ p, xchk xm_X11_part q p = true := xall_mem k_X11_part
def xp_X11_image : List (List Nat) := [[], [], [], [404, 405, 64, 406], [], [], [], [410, 412, 0, 64, 413], [], [], [359], [], [], [], [], [359], [], [135, 213, 74], [], [], [358], [214, 215, 74, 216], [], [], [359], [], [], [], [365], [913, 914, 915, 74, 916], [], []]
set_option maxRecDepth 100000 in
theorem k_X11_image : xall xm_X11_image xc_X11_image xp_X11_image = true := by decide +kernel
theorem o_X11_image : ∀ q ∈ xm_X11_image.2, ∃ p, xchk xm_X11_image q p = true := xall_mem k_X11_image
def xp_X11_from : List (List Nat) := [[], [], [], [404, 405, 64, 406], [], [], [], [410, 412, 0, 64, 413], [], [], [359], [], [], [], [], [], [410, 412, 0, 64, 413], [], [], [365], [], [359], [], [], [913, 914, 915, 74, 916], [], []]
set_option maxRecDepth 100000 in
theorem k_X11_from : xall xm_X11_from xc_X11_from xp_X11_from = true := by decide +kernel
theorem o_X11_from : ∀ q ∈ xm_X11_from.2, ∃ p, xchk xm_X11_from q p = true := xall_mem k_X11_from
def xp_X11_status : List (List Nat) := [[], [], [], [404, 405, 64, 406], [], [], [], [410, 412, 0, 64, 413], [], [], [], [], [364], [], [], []]
set_option maxRecDepth 100000 in
theorem k_X11_status : xall xm_X11_status xc_X11_status xp_X11_status = true := by decide +kernel
theorem o_X11_status : ∀ q ∈ xm_X11_status.2, ∃ p, xchk xm_X11_status q p = true := xall_mem k_X11_status
def xp_X11_count : List (List Nat) := [[], [], [], [365], [283], [], [], [365], [288], [], [], [365], [321], [226], [], [], [365], [321], [230], [], [], [365], [321], [930, 931, 932, 75, 933], [], [], [365], [321], [233], [], [], [365], [292], [], [], [365], [294], [], [], [367], [], [], [], [410, 412, 0, 64, 413], []]
set_option maxRecDepth 100000 in
theorem k_X11_count : xall xm_X11_count xc_X11_count xp_X11_count = true := by decide +kernel
theorem o_X11_count : ∀ q ∈ xm_X11_count.2, ∃ p, xchk xm_X11_count q p = true := xall_mem k_X11_count
def xp_X11_digest : List (List Nat) := [[938], [], [], [], [], [], [], [939], [], [], [], [], [940, 927, 928, 64, 929], [], [], [], [], [], [], [365], [], [941, 942, 943, 74, 944], [], [939], [], [], [], [368], [], [], [939], [], [], [], [369], [], []]
set_option maxRecDepth 100000 in
theorem k_X11_digest : xall xm_X11_digest xc_X11_digest xp_X11_digest = true := by decide +kernel
theorem o_X11_digest : ∀ q ∈ xm_X11_digest.2, ∃ p, xchk xm_X11_digest q p = true := xall_mem k_X11_digest
def xp_X11_within : List (List Nat) := [[], [], [], [], [], [], [], [], [], []]
set_option maxRecDepth 100000 in
theorem k_X11_within : xall xm_X11_within xc_X11_within xp_X11_within = true := by decide +kernel
theorem o_X11_within : ∀ q ∈ xm_X11_within.2, ∃ p, xchk xm_X11_within q p = true := xall_mem k_X11_within
def xp_X11_isWeather : List (List Nat) := [[], [], [], [404, 405, 64, 406], []]
set_option maxRecDepth 100000 in
theorem k_X11_isWeather : xall xm_X11_isWeather xc_X11_isWeather xp_X11_isWeather = true := by decide +kernel
theorem o_X11_isWeather : ∀ q ∈ xm_X11_isWeather.2, ∃ p, xchk xm_X11_isWeather q p = true := xall_mem k_X11_isWeather
def xp_X11_isEvening : List (List Nat) := [[], [], [], [404, 405, 64, 406], []]
set_option maxRecDepth 100000 in
theorem k_X11_isEvening : xall xm_X11_isEvening xc_X11_isEvening xp_X11_isEvening = true := by decide +kernel
theorem o_X11_isEvening : ∀ q ∈ xm_X11_isEvening.2, ∃ p, xchk xm_X11_isEvening q p = true := xall_mem k_X11_isEvening
def xp_X11_isRenterTold : List (List Nat) := [[], [], [], [404, 405, 64, 406], [], [], [], [], [404, 405, 64, 406], [], [], [], [], [404, 405, 64, 406], [], [], [], [], []]
set_option maxRecDepth 100000 in
theorem k_X11_isRenterTold : xall xm_X11_isRenterTold xc_X11_isRenterTold xp_X11_isRenterTold = true := by decide +kernel
theorem o_X11_isRenterTold : ∀ q ∈ xm_X11_isRenterTold.2, ∃ p, xchk xm_X11_isRenterTold q p = true := xall_mem k_X11_isRenterTold
def xp_X11_isView : List (List Nat) := [[], [], [], [365], [283], [], [], [404, 405, 64, 406], []]
set_option maxRecDepth 100000 in
theorem k_X11_isView : xall xm_X11_isView xc_X11_isView xp_X11_isView = true := by decide +kernel
theorem o_X11_isView : ∀ q ∈ xm_X11_isView.2, ∃ p, xchk xm_X11_isView q p = true := xall_mem k_X11_isView
def xp_X11_isRenter : List (List Nat) := [[], [], [], [365], [288], [], [], [404, 405, 64, 406], []]
set_option maxRecDepth 100000 in
theorem k_X11_isRenter : xall xm_X11_isRenter xc_X11_isRenter xp_X11_isRenter = true := by decide +kernel
theorem o_X11_isRenter : ∀ q ∈ xm_X11_isRenter.2, ∃ p, xchk xm_X11_isRenter q p = true := xall_mem k_X11_isRenter
def xp_X11_isPair : List (List Nat) := [[], [], [556, 558, 12, 64, 559], [], [], [], [], [], [556, 558, 12, 64, 559], [], [], [], [], []]
set_option maxRecDepth 100000 in
theorem k_X11_isPair : xall xm_X11_isPair xc_X11_isPair xp_X11_isPair = true := by decide +kernel
theorem o_X11_isPair : ∀ q ∈ xm_X11_isPair.2, ∃ p, xchk xm_X11_isPair q p = true := xall_mem k_X11_isPair
def xp_X11_refuse : List (List Nat) := [[], [], [], [], [], [], [], [404, 405, 64, 406], [], [], [364], [], [], [], [], [], [], [], []]
set_option maxRecDepth 100000 in
theorem k_X11_refuse : xall xm_X11_refuse xc_X11_refuse xp_X11_refuse = true := by decide +kernel
theorem o_X11_refuse : ∀ q ∈ xm_X11_refuse.2, ∃ p, xchk xm_X11_refuse q p = true := xall_mem k_X11_refuse
def xp_X11_refuseApart : List (List Nat) := [[], [], [410, 412, 0, 64, 413], [], [], []]
set_option maxRecDepth 100000 in
theorem k_X11_refuseApart : xall xm_X11_refuseApart xc_X11_refuseApart xp_X11_refuseApart = true := by decide +kernel
theorem o_X11_refuseApart : ∀ q ∈ xm_X11_refuseApart.2, ∃ p, xchk xm_X11_refuseApart q p = true := xall_mem k_X11_refuseApart
def xp_X11_greatestCommon : List (List Nat) := [[], [], [], [], [], [], [], [], [], [], [], [], [], [], [], [], [], [], [], [], [], [], [], [], [], [], []]
set_option maxRecDepth 100000 in
theorem k_X11_greatestCommon : xall xm_X11_greatestCommon xc_X11_greatestCommon xp_X11_greatestCommon = true := by decide +kernel
theorem o_X11_greatestCommon : ∀ q ∈ xm_X11_greatestCommon.2, ∃ p, xchk xm_X11_greatestCommon q p = true := xall_mem k_X11_greatestCommon
def xp_X12_init : List (List Nat) := [[], [951, 90, 91], [], [], [164], [952], [], [], [164], [953], [], [], [212], [954], [], [], [164], [955], [], [], [957], [], [], [164], [958], [], [], [164], [960], [], [], [164], [961], [], [], [164], [962], [], [], [164], [963], [], [], [164], [964], [], [], [164], [965], [], [], [164], [970], [], [], [164], [971], [], [], [164], [977], [], [], [164], [978], []]
set_option maxRecDepth 100000 in
theorem k_X12_init : xall xm_X12_init xc_X12_init xp_X12_init = true := by decide +kernel
theorem o_X12_init : ∀ q ∈ xm_X12_init.2, ∃ p, xchk xm_X12_init q p = true := xall_mem k_X12_init
def xp_X12_in : List (List Nat) := [[], [], [], [], [], [], [], [], [], [], [], []]
set_option maxRecDepth 100000 in
theorem k_X12_in : xall xm_X12_in xc_X12_in xp_X12_in = true := by decide +kernel
theorem o_X12_in : ∀ q ∈ xm_X12_in.2, ∃ p, xchk xm_X12_in q p = true := xall_mem k_X12_in
def xp_X12_bad : List (List Nat) := [[], [955], [], [], [], [], [], [], [], []]
set_option maxRecDepth 100000 in
theorem k_X12_bad : xall xm_X12_bad xc_X12_bad xp_X12_bad = true := by decide +kernel
theorem o_X12_bad : ∀ q ∈ xm_X12_bad.2, ∃ p, xchk xm_X12_bad q p = true := xall_mem k_X12_bad
def xp_X12_no : List (List Nat) := [[], [955], [], [], [], [], [], [], [], []]
set_option maxRecDepth 100000 in
theorem k_X12_no : xall xm_X12_no xc_X12_no xp_X12_no = true := by decide +kernel
theorem o_X12_no : ∀ q ∈ xm_X12_no.2, ∃ p, xchk xm_X12_no q p = true := xall_mem k_X12_no
def xp_X12_full : List (List Nat) := [[], [955], [], [], [], [], [], [], [], []]
set_option maxRecDepth 100000 in
theorem k_X12_full : xall xm_X12_full xc_X12_full xp_X12_full = true := by decide +kernel
theorem o_X12_full : ∀ q ∈ xm_X12_full.2, ∃ p, xchk xm_X12_full q p = true := xall_mem k_X12_full
def xp_X12_begin : List (List Nat) := [[], [], [], [], [], [], [], [], [], [], [], []]
set_option maxRecDepth 100000 in
theorem k_X12_begin : xall xm_X12_begin xc_X12_begin xp_X12_begin = true := by decide +kernel
theorem o_X12_begin : ∀ q ∈ xm_X12_begin.2, ∃ p, xchk xm_X12_begin q p = true := xall_mem k_X12_begin
def xp_X12_views : List (List Nat) := [[], [952], [], [], []]
set_option maxRecDepth 100000 in
theorem k_X12_views : xall xm_X12_views xc_X12_views xp_X12_views = true := by decide +kernel
theorem o_X12_views : ∀ q ∈ xm_X12_views.2, ∃ p, xchk xm_X12_views q p = true := xall_mem k_X12_views
def xp_X12_renters : List (List Nat) := [[], [952], [], [], []]
set_option maxRecDepth 100000 in
theorem k_X12_renters : xall xm_X12_renters xc_X12_renters xp_X12_renters = true := by decide +kernel
theorem o_X12_renters : ∀ q ∈ xm_X12_renters.2, ∃ p, xchk xm_X12_renters q p = true := xall_mem k_X12_renters
def xp_X12_isView : List (List Nat) := [[], [], [], [], [1038, 1040, 25, 77, 1041], [], [], [], [1053, 1054, 77, 1055], []]
set_option maxRecDepth 100000 in
theorem k_X12_isView : xall xm_X12_isView xc_X12_isView xp_X12_isView = true := by decide +kernel
theorem o_X12_isView : ∀ q ∈ xm_X12_isView.2, ∃ p, xchk xm_X12_isView q p = true := xall_mem k_X12_isView
def xp_X12_isRenter : List (List Nat) := [[], [], [], [], [1081, 1083, 28, 77, 1084], [], [], [], [1053, 1054, 77, 1055], []]
set_option maxRecDepth 100000 in
theorem k_X12_isRenter : xall xm_X12_isRenter xc_X12_isRenter xp_X12_isRenter = true := by decide +kernel
theorem o_X12_isRenter : ∀ q ∈ xm_X12_isRenter.2, ∃ p, xchk xm_X12_isRenter q p = true := xall_mem k_X12_isRenter
def xp_X12_isEvening : List (List Nat) := [[], [], [], [1057], [1053, 1054, 77, 1055], []]
set_option maxRecDepth 100000 in
theorem k_X12_isEvening : xall xm_X12_isEvening xc_X12_isEvening xp_X12_isEvening = true := by decide +kernel
theorem o_X12_isEvening : ∀ q ∈ xm_X12_isEvening.2, ∃ p, xchk xm_X12_isEvening q p = true := xall_mem k_X12_isEvening
def xp_X12_isWeather : List (List Nat) := [[], [], [], [1052], [1053, 1054, 77, 1055], []]
set_option maxRecDepth 100000 in
theorem k_X12_isWeather : xall xm_X12_isWeather xc_X12_isWeather xp_X12_isWeather = true := by decide +kernel
theorem o_X12_isWeather : ∀ q ∈ xm_X12_isWeather.2, ∃ p, xchk xm_X12_isWeather q p = true := xall_mem k_X12_isWeather
def xp_X12_viewHas : List (List Nat) := [[], [952], [], [], [], [], [], [], [], [], []]
set_option maxRecDepth 100000 in
theorem k_X12_viewHas : xall xm_X12_viewHas xc_X12_viewHas xp_X12_viewHas = true := by decide +kernel
theorem o_X12_viewHas : ∀ q ∈ xm_X12_viewHas.2, ∃ p, xchk xm_X12_viewHas q p = true := xall_mem k_X12_viewHas
def xp_X12_renterHas : List (List Nat) := [[], [952], [], [], [], [], [], [], [], [], []]
set_option maxRecDepth 100000 in
theorem k_X12_renterHas : xall xm_X12_renterHas xc_X12_renterHas xp_X12_renterHas = true := by decide +kernel
theorem o_X12_renterHas : ∀ q ∈ xm_X12_renterHas.2, ∃ p, xchk xm_X12_renterHas q p = true := xall_mem k_X12_renterHas
def xp_X12_shop : List (List Nat) := [[], [1038, 1040, 25, 77, 1041], [], [], [952], [1042, 1043, 77, 1044], [], []]
set_option maxRecDepth 100000 in
theorem k_X12_shop : xall xm_X12_shop xc_X12_shop xp_X12_shop = true := by decide +kernel
theorem o_X12_shop : ∀ q ∈ xm_X12_shop.2, ∃ p, xchk xm_X12_shop q p = true := xall_mem k_X12_shop
def xp_X12_isViewTold : List (List Nat) := [[], [], [], [1052], [1053, 1054, 77, 1055], [], [], [], [], [1056], [1053, 1054, 77, 1055], [], [], [], [], [1057], [1053, 1054, 77, 1055], [], [], [1058, 1059, 77, 1060], [], [], [], [], []]
set_option maxRecDepth 100000 in
theorem k_X12_isViewTold : xall xm_X12_isViewTold xc_X12_isViewTold xp_X12_isViewTold = true := by decide +kernel
theorem o_X12_isViewTold : ∀ q ∈ xm_X12_isViewTold.2, ∃ p, xchk xm_X12_isViewTold q p = true := xall_mem k_X12_isViewTold
def xp_X12_layView : List (List Nat) := [[], [], [], [], [], [], [], [], [], [], [], [], [], [], [], [], [], [], [], [], [], [], [], [], [], [], [], [], [], [], [], [], [], [], [], [], [], [], [], [], [], [], [], [], [], [], [], [], [], [], [], []]
set_option maxRecDepth 100000 in
theorem k_X12_layView : xall xm_X12_layView xc_X12_layView xp_X12_layView = true := by decide +kernel
theorem o_X12_layView : ∀ q ∈ xm_X12_layView.2, ∃ p, xchk xm_X12_layView q p = true := xall_mem k_X12_layView
def xp_X12_view : List (List Nat) := [[], [], [], [], [1049, 1050, 77, 1051], [], [], [], [1061, 1063, 26, 77, 1064], [], [], [1038, 1040, 25, 77, 1041], [], [], [], [1065, 1067, 27, 77, 1068], [], [], [952], [], [], [], [], [1069, 1070, 77, 1071], [], [952], [], [], [], [], [1038, 1040, 25, 77, 1041], [], [], []]
set_option maxRecDepth 100000 in
theorem k_X12_view : xall xm_X12_view xc_X12_view xp_X12_view = true := by decide +kernel
theorem o_X12_view : ∀ q ∈ xm_X12_view.2, ∃ p, xchk xm_X12_view q p = true := xall_mem k_X12_view
def xp_X12_isRenterTold : List (List Nat) := [[], [], [], [1056], [1053, 1054, 77, 1055], [], [], [], [], [1079], [1053, 1054, 77, 1055], [], [], [], [], [1080], [1053, 1054, 77, 1055], [], [], [], [], []]
set_option maxRecDepth 100000 in
theorem k_X12_isRenterTold : xall xm_X12_isRenterTold xc_X12_isRenterTold xp_X12_isRenterTold = true := by decide +kernel
theorem o_X12_isRenterTold : ∀ q ∈ xm_X12_isRenterTold.2, ∃ p, xchk xm_X12_isRenterTold q p = true := xall_mem k_X12_isRenterTold
def xp_X12_layRenter : List (List Nat) := [[], [], [], [], [], [], [], [], [], [], [], [], [], [], [], [], [], [], [], [], [], [], [], [], [], [], [], [], [], [], [], [], [], []]
set_option maxRecDepth 100000 in
theorem k_X12_layRenter : xall xm_X12_layRenter xc_X12_layRenter xp_X12_layRenter = true := by decide +kernel
theorem o_X12_layRenter : ∀ q ∈ xm_X12_layRenter.2, ∃ p, xchk xm_X12_layRenter q p = true := xall_mem k_X12_layRenter
def xp_X12_renter : List (List Nat) := [[], [], [], [1076, 1077, 77, 1078], [], [], [], [1061, 1063, 26, 77, 1064], [], [], [1081, 1083, 28, 77, 1084], [], [], [], [1065, 1067, 27, 77, 1068], [], [], [952], [], [], [], [1085, 1086, 77, 1087], [], [952], [], [], [], [], [1081, 1083, 28, 77, 1084], [], [], []]
set_option maxRecDepth 100000 in
theorem k_X12_renter : xall xm_X12_renter xc_X12_renter xp_X12_renter = true := by decide +kernel
theorem o_X12_renter : ∀ q ∈ xm_X12_renter.2, ∃ p, xchk xm_X12_renter q p = true := xall_mem k_X12_renter

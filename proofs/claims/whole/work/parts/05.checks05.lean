def xp_X12_things : List (List Nat) := [[], [], [1092, 1094, 29, 77, 1095], [], [], [], [], [1096], [1053, 1054, 77, 1055], [], [], [], [1061, 1063, 26, 77, 1064], [], [], [], [], [1097, 1099, 30, 77, 1100], [], [], [952], [], [], [], [], [], [], [], [], [], [], []]
set_option maxRecDepth 100000 in
theorem k_X12_things : xall xm_X12_things xc_X12_things xp_X12_things = true := by decide +kernel
theorem o_X12_things : ∀ q ∈ xm_X12_things.2, ∃ p, xchk xm_X12_things q p = true := xall_mem k_X12_things
def xp_X12_lake : List (List Nat) := [[], [], [], [], [], []]
set_option maxRecDepth 100000 in
theorem k_X12_lake : xall xm_X12_lake xc_X12_lake xp_X12_lake = true := by decide +kernel
theorem o_X12_lake : ∀ q ∈ xm_X12_lake.2, ∃ p, xchk xm_X12_lake q p = true := xall_mem k_X12_lake
def xp_X12_weatherOf : List (List Nat) := [[], [], [], [], [], [], [], [], [], [], [], [], [1160, 1161, 77, 1162], [], [], [], [], [], [], [1160, 1161, 77, 1162], [], [], [], [], [], [], [], [], [], [], [], [], [], [], [1160, 1161, 77, 1162], []]
set_option maxRecDepth 100000 in
theorem k_X12_weatherOf : xall xm_X12_weatherOf xc_X12_weatherOf xp_X12_weatherOf = true := by decide +kernel
theorem o_X12_weatherOf : ∀ q ∈ xm_X12_weatherOf.2, ∃ p, xchk xm_X12_weatherOf q p = true := xall_mem k_X12_weatherOf
def xp_X12_costOf : List (List Nat) := [[], [], [], [], [], [], [], [], [], [], [], [], [], [], [], [], [], [], [], [], [], [], []]
set_option maxRecDepth 100000 in
theorem k_X12_costOf : xall xm_X12_costOf xc_X12_costOf xp_X12_costOf = true := by decide +kernel
theorem o_X12_costOf : ∀ q ∈ xm_X12_costOf.2, ∃ p, xchk xm_X12_costOf q p = true := xall_mem k_X12_costOf
def xp_X12_showsIn : List (List Nat) := [[], [], [], [1097, 1099, 30, 77, 1100], [], [], [], [1097, 1099, 30, 77, 1100], [], [1157, 1158, 77, 1159], []]
set_option maxRecDepth 100000 in
theorem k_X12_showsIn : xall xm_X12_showsIn xc_X12_showsIn xp_X12_showsIn = true := by decide +kernel
theorem o_X12_showsIn : ∀ q ∈ xm_X12_showsIn.2, ∃ p, xchk xm_X12_showsIn q p = true := xall_mem k_X12_showsIn
def xp_X12_fits : List (List Nat) := [[], [], [], [1097, 1099, 30, 77, 1100], [], [], [], [], [], [1097, 1099, 30, 77, 1100], [], [], [], [], [], []]
set_option maxRecDepth 100000 in
theorem k_X12_fits : xall xm_X12_fits xc_X12_fits xp_X12_fits = true := by decide +kernel
theorem o_X12_fits : ∀ q ∈ xm_X12_fits.2, ∃ p, xchk xm_X12_fits q p = true := xall_mem k_X12_fits
def xp_X12_layHand : List (List Nat) := [[], [], [], [], [1038, 1040, 25, 77, 1041], [], [], [958], [], [], [], [], [1097, 1099, 30, 77, 1100], [], [], [], [1097, 1099, 30, 77, 1100], [1113, 1114, 77, 1115], [], [], [], [], [], [1081, 1083, 28, 77, 1084], [959], [], [], [], [], [1081, 1083, 28, 77, 1084], [], [], [960], [], [], [], [], [1116, 1118, 33, 77, 1119], [], [], [961], [], [], [], [], [1116, 1118, 33, 77, 1119], [], [], [962], [], [], [], [], [1116, 1118, 33, 77, 1119], [], [], [], []]
set_option maxRecDepth 100000 in
theorem k_X12_layHand : xall xm_X12_layHand xc_X12_layHand xp_X12_layHand = true := by decide +kernel
theorem o_X12_layHand : ∀ q ∈ xm_X12_layHand.2, ∃ p, xchk xm_X12_layHand q p = true := xall_mem k_X12_layHand
def xp_X12_doesSuit : List (List Nat) := [[], [], [], [960], [], [], [1124, 1126, 35, 77, 1127], [], [], [958], [], [], [], [961], [], [], [], [], [962], [], [], [], [], [], [962], [], [], [], [], [], [1153, 1155, 39, 77, 1156], [], [], [], [], []]
set_option maxRecDepth 100000 in
theorem k_X12_doesSuit : xall xm_X12_doesSuit xc_X12_doesSuit xp_X12_doesSuit = true := by decide +kernel
theorem o_X12_doesSuit : ∀ q ∈ xm_X12_doesSuit.2, ∃ p, xchk xm_X12_doesSuit q p = true := xall_mem k_X12_doesSuit
def xp_X12_laySuit : List (List Nat) := [[], [], [], [], [959], [], [], [963], [], [], [], [], [], [], [], [1038, 1040, 25, 77, 1041], [], [], [963], [], [], [], [], [], [], [], [1179, 1181, 40, 77, 1182], [], [], [], [], [], [], [], [], [], [], [], [], []]
set_option maxRecDepth 100000 in
theorem k_X12_laySuit : xall xm_X12_laySuit xc_X12_laySuit xp_X12_laySuit = true := by decide +kernel
theorem o_X12_laySuit : ∀ q ∈ xm_X12_laySuit.2, ∃ p, xchk xm_X12_laySuit q p = true := xall_mem k_X12_laySuit
def xp_X12_keep : List (List Nat) := [[], [952], [], [], [], [], [], [], [], [], [], [], [952], [], [], [], [], [952], [], [], [], [], [], [], [], [], [952], [], [], [], [], [], [], [952], [], [], [], [], [], [], [], [], [], [], [], [952], [], [], [], [], [], [], [1116, 1118, 33, 77, 1119], [], [], [952], [], [], [], [], [], [], [], [], [1097, 1099, 30, 77, 1100], [], [], [], [], [952], [], [], [], [], [952], [], [], [], [], [952], [], [], [], [], [952], [], [], [], [], [952], [], [], [], [], [952], [], [], [], [], [], [], [], [], [], [952], [], [], [], [], [], [], [952], [], [], [], [], [], [], [], [], [952], [], [], [], [], [], [], []]
set_option maxRecDepth 100000 in
theorem k_X12_keep : xall xm_X12_keep xc_X12_keep xp_X12_keep = true := by decide +kernel
theorem o_X12_keep : ∀ q ∈ xm_X12_keep.2, ∃ p, xchk xm_X12_keep q p = true := xall_mem k_X12_keep
def xp_X12_viewOf : List (List Nat) := [[], [], [], [], [], [], [1038, 1040, 25, 77, 1041], [], [], [], [], [1097, 1099, 30, 77, 1100], [], [], [], [], [], [], [], [], [], []]
set_option maxRecDepth 100000 in
theorem k_X12_viewOf : xall xm_X12_viewOf xc_X12_viewOf xp_X12_viewOf = true := by decide +kernel
theorem o_X12_viewOf : ∀ q ∈ xm_X12_viewOf.2, ∃ p, xchk xm_X12_viewOf q p = true := xall_mem k_X12_viewOf
def xp_X12_remember : List (List Nat) := [[], [952], [], [], [], [], [], [], [], [], [], [], [952], [], [], [], [], [952], [], [], [], [], [], [], [], [], [], [], [952], [], [], [], [], [], [], [952], [], [], [], [], [], [], [952], [], [], [], [], [952], [], [], [], [], [], [], [952], [], [], [], [], [952], [], [], [], [], [952], [], [], [], [], [], [], []]
set_option maxRecDepth 100000 in
theorem k_X12_remember : xall xm_X12_remember xc_X12_remember xp_X12_remember = true := by decide +kernel
theorem o_X12_remember : ∀ q ∈ xm_X12_remember.2, ∃ p, xchk xm_X12_remember q p = true := xall_mem k_X12_remember
def xp_X12_let : List (List Nat) := [[], [], [1092, 1094, 29, 77, 1095], [], [], [], [1105, 1107, 31, 77, 1108], [], [], [], [1061, 1063, 26, 77, 1064], [], [], [1109, 1111, 32, 77, 1112], [], [], [], [1097, 1099, 30, 77, 1100], [], [], [], [], [1120, 1122, 34, 77, 1123], [], [], [], [], [], [], [], [], [], [], [], [960], [], [], [1124, 1126, 35, 77, 1127], [], [], [958], [], [], [], [961], [], [], [], [], [1128, 1130, 36, 77, 1131], [], [], [1132, 1134, 37, 77, 1135], [], [952], [], [], [], [], [], [], [], [], [], [], [952], [], [], [], [], [], [], [], [], [], [], [958], [], [], [], [], [], [952], [], [], [], [], [958], [], [], [], [], [], [], [], [1136, 1138, 38, 77, 1139], [], [958], [], [], []]
set_option maxRecDepth 100000 in
theorem k_X12_let : xall xm_X12_let xc_X12_let xp_X12_let = true := by decide +kernel
theorem o_X12_let : ∀ q ∈ xm_X12_let.2, ∃ p, xchk xm_X12_let q p = true := xall_mem k_X12_let
def xp_X12_night : List (List Nat) := [[], [1132, 1134, 37, 77, 1135], [], [], [], [], [1038, 1040, 25, 77, 1041], [], [], [952], [], [], [], [], [], [], [], [], [], [], [], [], [952], [], [], [], [], [], [], [], [952], [], [], []]
set_option maxRecDepth 100000 in
theorem k_X12_night : xall xm_X12_night xc_X12_night xp_X12_night = true := by decide +kernel
theorem o_X12_night : ∀ q ∈ xm_X12_night.2, ∃ p, xchk xm_X12_night q p = true := xall_mem k_X12_night
def xp_X12_undo : List (List Nat) := [[], [952], [], [], [], [], [1128, 1130, 36, 77, 1131], [], [], [952], [], [], [], [], [], [], [], [], [], [952], [], [], [], [], [], [], [], [], [], [], [], [952], [], [], [], [], [], [], [], [], [952], [], [], [], [], [], [], [952], [], [], [], [], [], [], [], [], [952], [], [], [], [], [], [], [], [], [], [], [952], [], [], [952], [], [], [], [], [], [], [952], [], [], [952], [], [], [], [], [], [], [952], [], [], [952], [], [], [], [], [], [], [], [], [], [], [], [952], [], [], [], [], [952], [], [], [], [], [], [], [], [], [], [], [952], [], [], []]
set_option maxRecDepth 100000 in
theorem k_X12_undo : xall xm_X12_undo xc_X12_undo xp_X12_undo = true := by decide +kernel
theorem o_X12_undo : ∀ q ∈ xm_X12_undo.2, ∃ p, xchk xm_X12_undo q p = true := xall_mem k_X12_undo
def xp_X12_of : List (List Nat) := [[], [], [1092, 1094, 29, 77, 1095], [], [], [], [], [1152], [1053, 1054, 77, 1055], [], [], [], [1061, 1063, 26, 77, 1064], [], [], [], [], [], [], [952], [], [], [1153, 1155, 39, 77, 1156], [], [], [], [], [1097, 1099, 30, 77, 1100], [], [], [], [1097, 1099, 30, 77, 1100], [1113, 1114, 77, 1115], [], [], [], [], [1097, 1099, 30, 77, 1100], [], [], [], [], [1097, 1099, 30, 77, 1100], [], [], [], [], [1097, 1099, 30, 77, 1100], []]
set_option maxRecDepth 100000 in
theorem k_X12_of : xall xm_X12_of xc_X12_of xp_X12_of = true := by decide +kernel
theorem o_X12_of : ∀ q ∈ xm_X12_of.2, ∃ p, xchk xm_X12_of q p = true := xall_mem k_X12_of
def xp_X12_about : List (List Nat) := [[], [], [1105, 1107, 31, 77, 1108], [], [], [], [], [1167], [1053, 1054, 77, 1055], [], [], [], [1061, 1063, 26, 77, 1064], [], [], [], [], [], [], [1120, 1122, 34, 77, 1123], [], [], [], [], [1116, 1118, 33, 77, 1119], []]
set_option maxRecDepth 100000 in
theorem k_X12_about : xall xm_X12_about xc_X12_about xp_X12_about = true := by decide +kernel
theorem o_X12_about : ∀ q ∈ xm_X12_about.2, ∃ p, xchk xm_X12_about q p = true := xall_mem k_X12_about
def xp_X12_shows : List (List Nat) := [[], [], [1092, 1094, 29, 77, 1095], [], [], [1172, 1173, 77, 1174], [], [], [], [], [1153, 1155, 39, 77, 1156], [], [], [], [1061, 1063, 26, 77, 1064], []]
set_option maxRecDepth 100000 in
theorem k_X12_shows : xall xm_X12_shows xc_X12_shows xp_X12_shows = true := by decide +kernel
theorem o_X12_shows : ∀ q ∈ xm_X12_shows.2, ∃ p, xchk xm_X12_shows q p = true := xall_mem k_X12_shows
def xp_X12_suits : List (List Nat) := [[], [], [1092, 1094, 29, 77, 1095], [], [], [], [1105, 1107, 31, 77, 1108], [], [], [1172, 1173, 77, 1174], [], [], [], [1061, 1063, 26, 77, 1064], [], [], [1109, 1111, 32, 77, 1112], [], [], [], [], [1179, 1181, 40, 77, 1182], [], [], [], [], []]
set_option maxRecDepth 100000 in
theorem k_X12_suits : xall xm_X12_suits xc_X12_suits xp_X12_suits = true := by decide +kernel
theorem o_X12_suits : ∀ q ∈ xm_X12_suits.2, ∃ p, xchk xm_X12_suits q p = true := xall_mem k_X12_suits
def xp_X12_judgeRow : List (List Nat) := [[], [], [], [], [], [], [], [], [959], [], [], [], [964], [], [], [], [], [], [], [], [], [], [], [], [964], [], [], [], [], [], [], [], [958], [], [964], [], [], [], [], [], [], [], [], [], [966], [], [], [], [966], [], [], [], [967], [], [], [], [966], [], [], [967], [], [], [], [], [959], [], [], [965], [], [], [964], [], [], [], [], [], []]
set_option maxRecDepth 100000 in
theorem k_X12_judgeRow : xall xm_X12_judgeRow xc_X12_judgeRow xp_X12_judgeRow = true := by decide +kernel
theorem o_X12_judgeRow : ∀ q ∈ xm_X12_judgeRow.2, ∃ p, xchk xm_X12_judgeRow q p = true := xall_mem k_X12_judgeRow
def xp_X12_freeBut : List (List Nat) := [[], [], [1038, 1040, 25, 77, 1041], [], [], [], [], [], [], [], [], [], [], [], [964], [], [], [], [], [], [], [], [], [964], [], [], [], [], [], [], [], [], [], [], []]
set_option maxRecDepth 100000 in
theorem k_X12_freeBut : xall xm_X12_freeBut xc_X12_freeBut xp_X12_freeBut = true := by decide +kernel
theorem o_X12_freeBut : ∀ q ∈ xm_X12_freeBut.2, ∃ p, xchk xm_X12_freeBut q p = true := xall_mem k_X12_freeBut
def xp_X12_nextView : List (List Nat) := [[], [], [], [], [], [], [1038, 1040, 25, 77, 1041], [], [], [], [], [], [], [], [], [], [], []]
set_option maxRecDepth 100000 in
theorem k_X12_nextView : xall xm_X12_nextView xc_X12_nextView xp_X12_nextView = true := by decide +kernel
theorem o_X12_nextView : ∀ q ∈ xm_X12_nextView.2, ∃ p, xchk xm_X12_nextView q p = true := xall_mem k_X12_nextView
def xp_X12_layBest : List (List Nat) := [[], [], [1192, 1194, 42, 77, 1195], [], [], [966], [], [], [967], [], [], [], [964], [], [], [], [], [], [], [], [959], [], [], [1196, 1198, 43, 77, 1199], [], [], [], [964], [], [], [], [], [], [], [], [], [964], [], [], [], [963], [], [], [], [], [1200, 1202, 44, 77, 1203], [], [1204, 1206, 45, 77, 1207], [], [], [964], [], [], [], [], [], [1038, 1040, 25, 77, 1041], [], [], [], [], [], [], [], [], [], [959], [], [], [964], [], [], [], [], []]
set_option maxRecDepth 100000 in
theorem k_X12_layBest : xall xm_X12_layBest xc_X12_layBest xp_X12_layBest = true := by decide +kernel
theorem o_X12_layBest : ∀ q ∈ xm_X12_layBest.2, ∃ p, xchk xm_X12_layBest q p = true := xall_mem k_X12_layBest

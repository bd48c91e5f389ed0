def xp_X12_things : List (List Nat) := [[], [], [1087, 1089, 29, 77, 1090], [], [], [], [], [1091], [1048, 1049, 77, 1050], [], [], [], [1056, 1058, 26, 77, 1059], [], [], [], [], [1092, 1094, 30, 77, 1095], [], [], [947], [], [], [], [], [], [], [], [], [], [], []]
set_option maxRecDepth 100000 in
theorem k_X12_things : xall xm_X12_things xc_X12_things xp_X12_things = true := by decide +kernel
theorem o_X12_things : ∀ q ∈ xm_X12_things.2, ∃ p, xchk xm_X12_things q p = true := xall_mem k_X12_things
def xp_X12_lake : List (List Nat) := [[], [], [], [], [], []]
set_option maxRecDepth 100000 in
theorem k_X12_lake : xall xm_X12_lake xc_X12_lake xp_X12_lake = true := by decide +kernel
theorem o_X12_lake : ∀ q ∈ xm_X12_lake.2, ∃ p, xchk xm_X12_lake q p = true := xall_mem k_X12_lake
def xp_X12_weatherOf : List (List Nat) := [[], [], [], [], [], [], [], [], [], [], [], [], [1155, 1156, 77, 1157], [], [], [], [], [], [], [1155, 1156, 77, 1157], [], [], [], [], [], [], [], [], [], [], [], [], [], [], [1155, 1156, 77, 1157], []]
set_option maxRecDepth 100000 in
theorem k_X12_weatherOf : xall xm_X12_weatherOf xc_X12_weatherOf xp_X12_weatherOf = true := by decide +kernel
theorem o_X12_weatherOf : ∀ q ∈ xm_X12_weatherOf.2, ∃ p, xchk xm_X12_weatherOf q p = true := xall_mem k_X12_weatherOf
def xp_X12_costOf : List (List Nat) := [[], [], [], [], [], [], [], [], [], [], [], [], [], [], [], [], [], [], [], [], [], [], []]
set_option maxRecDepth 100000 in
theorem k_X12_costOf : xall xm_X12_costOf xc_X12_costOf xp_X12_costOf = true := by decide +kernel
theorem o_X12_costOf : ∀ q ∈ xm_X12_costOf.2, ∃ p, xchk xm_X12_costOf q p = true := xall_mem k_X12_costOf
def xp_X12_showsIn : List (List Nat) := [[], [], [], [1092, 1094, 30, 77, 1095], [], [], [], [1092, 1094, 30, 77, 1095], [], [1152, 1153, 77, 1154], []]
set_option maxRecDepth 100000 in
theorem k_X12_showsIn : xall xm_X12_showsIn xc_X12_showsIn xp_X12_showsIn = true := by decide +kernel
theorem o_X12_showsIn : ∀ q ∈ xm_X12_showsIn.2, ∃ p, xchk xm_X12_showsIn q p = true := xall_mem k_X12_showsIn
def xp_X12_fits : List (List Nat) := [[], [], [], [1092, 1094, 30, 77, 1095], [], [], [], [], [], [1092, 1094, 30, 77, 1095], [], [], [], [], [], []]
set_option maxRecDepth 100000 in
theorem k_X12_fits : xall xm_X12_fits xc_X12_fits xp_X12_fits = true := by decide +kernel
theorem o_X12_fits : ∀ q ∈ xm_X12_fits.2, ∃ p, xchk xm_X12_fits q p = true := xall_mem k_X12_fits
def xp_X12_layHand : List (List Nat) := [[], [], [], [], [1033, 1035, 25, 77, 1036], [], [], [953], [], [], [], [], [1092, 1094, 30, 77, 1095], [], [], [], [1092, 1094, 30, 77, 1095], [1108, 1109, 77, 1110], [], [], [], [], [], [1076, 1078, 28, 77, 1079], [954], [], [], [], [], [1076, 1078, 28, 77, 1079], [], [], [955], [], [], [], [], [1111, 1113, 33, 77, 1114], [], [], [956], [], [], [], [], [1111, 1113, 33, 77, 1114], [], [], [957], [], [], [], [], [1111, 1113, 33, 77, 1114], [], [], [], []]
set_option maxRecDepth 100000 in
theorem k_X12_layHand : xall xm_X12_layHand xc_X12_layHand xp_X12_layHand = true := by decide +kernel
theorem o_X12_layHand : ∀ q ∈ xm_X12_layHand.2, ∃ p, xchk xm_X12_layHand q p = true := xall_mem k_X12_layHand
def xp_X12_doesSuit : List (List Nat) := [[], [], [], [955], [], [], [1119, 1121, 35, 77, 1122], [], [], [953], [], [], [], [956], [], [], [], [], [957], [], [], [], [], [], [957], [], [], [], [], [], [1148, 1150, 39, 77, 1151], [], [], [], [], []]
set_option maxRecDepth 100000 in
theorem k_X12_doesSuit : xall xm_X12_doesSuit xc_X12_doesSuit xp_X12_doesSuit = true := by decide +kernel
theorem o_X12_doesSuit : ∀ q ∈ xm_X12_doesSuit.2, ∃ p, xchk xm_X12_doesSuit q p = true := xall_mem k_X12_doesSuit
def xp_X12_laySuit : List (List Nat) := [[], [], [], [], [954], [], [], [958], [], [], [], [], [], [], [], [1033, 1035, 25, 77, 1036], [], [], [958], [], [], [], [], [], [], [], [1174, 1176, 40, 77, 1177], [], [], [], [], [], [], [], [], [], [], [], [], []]
set_option maxRecDepth 100000 in
theorem k_X12_laySuit : xall xm_X12_laySuit xc_X12_laySuit xp_X12_laySuit = true := by decide +kernel
theorem o_X12_laySuit : ∀ q ∈ xm_X12_laySuit.2, ∃ p, xchk xm_X12_laySuit q p = true := xall_mem k_X12_laySuit
def xp_X12_keep : List (List Nat) := [[], [947], [], [], [], [], [], [], [], [], [], [], [947], [], [], [], [], [947], [], [], [], [], [], [], [], [], [947], [], [], [], [], [], [], [947], [], [], [], [], [], [], [], [], [], [], [], [947], [], [], [], [], [], [], [1111, 1113, 33, 77, 1114], [], [], [947], [], [], [], [], [], [], [], [], [1092, 1094, 30, 77, 1095], [], [], [], [], [947], [], [], [], [], [947], [], [], [], [], [947], [], [], [], [], [947], [], [], [], [], [947], [], [], [], [], [947], [], [], [], [], [], [], [], [], [], [947], [], [], [], [], [], [], [947], [], [], [], [], [], [], [], [], [947], [], [], [], [], [], [], []]
set_option maxRecDepth 100000 in
theorem k_X12_keep : xall xm_X12_keep xc_X12_keep xp_X12_keep = true := by decide +kernel
theorem o_X12_keep : ∀ q ∈ xm_X12_keep.2, ∃ p, xchk xm_X12_keep q p = true := xall_mem k_X12_keep
def xp_X12_viewOf : List (List Nat) := [[], [], [], [], [], [], [1033, 1035, 25, 77, 1036], [], [], [], [], [1092, 1094, 30, 77, 1095], [], [], [], [], [], [], [], [], [], []]
set_option maxRecDepth 100000 in
theorem k_X12_viewOf : xall xm_X12_viewOf xc_X12_viewOf xp_X12_viewOf = true := by decide +kernel
theorem o_X12_viewOf : ∀ q ∈ xm_X12_viewOf.2, ∃ p, xchk xm_X12_viewOf q p = true := xall_mem k_X12_viewOf
def xp_X12_remember : List (List Nat) := [[], [947], [], [], [], [], [], [], [], [], [], [], [947], [], [], [], [], [947], [], [], [], [], [], [], [], [], [], [], [947], [], [], [], [], [], [], [947], [], [], [], [], [], [], [947], [], [], [], [], [947], [], [], [], [], [], [], [947], [], [], [], [], [947], [], [], [], [], [947], [], [], [], [], [], [], []]
set_option maxRecDepth 100000 in
theorem k_X12_remember : xall xm_X12_remember xc_X12_remember xp_X12_remember = true := by decide +kernel
theorem o_X12_remember : ∀ q ∈ xm_X12_remember.2, ∃ p, xchk xm_X12_remember q p = true := xall_mem k_X12_remember
def xp_X12_let : List (List Nat) := [[], [], [1087, 1089, 29, 77, 1090], [], [], [], [1100, 1102, 31, 77, 1103], [], [], [], [1056, 1058, 26, 77, 1059], [], [], [1104, 1106, 32, 77, 1107], [], [], [], [1092, 1094, 30, 77, 1095], [], [], [], [], [1115, 1117, 34, 77, 1118], [], [], [], [], [], [], [], [], [], [], [], [955], [], [], [1119, 1121, 35, 77, 1122], [], [], [953], [], [], [], [956], [], [], [], [], [1123, 1125, 36, 77, 1126], [], [], [1127, 1129, 37, 77, 1130], [], [947], [], [], [], [], [], [], [], [], [], [], [947], [], [], [], [], [], [], [], [], [], [], [953], [], [], [], [], [], [947], [], [], [], [], [953], [], [], [], [], [], [], [], [1131, 1133, 38, 77, 1134], [], [953], [], [], []]
set_option maxRecDepth 100000 in
theorem k_X12_let : xall xm_X12_let xc_X12_let xp_X12_let = true := by decide +kernel
theorem o_X12_let : ∀ q ∈ xm_X12_let.2, ∃ p, xchk xm_X12_let q p = true := xall_mem k_X12_let
def xp_X12_night : List (List Nat) := [[], [1127, 1129, 37, 77, 1130], [], [], [], [], [1033, 1035, 25, 77, 1036], [], [], [947], [], [], [], [], [], [], [], [], [], [], [], [], [947], [], [], [], [], [], [], [], [947], [], [], []]
set_option maxRecDepth 100000 in
theorem k_X12_night : xall xm_X12_night xc_X12_night xp_X12_night = true := by decide +kernel
theorem o_X12_night : ∀ q ∈ xm_X12_night.2, ∃ p, xchk xm_X12_night q p = true := xall_mem k_X12_night
def xp_X12_undo : List (List Nat) := [[], [947], [], [], [], [], [1123, 1125, 36, 77, 1126], [], [], [947], [], [], [], [], [], [], [], [], [], [947], [], [], [], [], [], [], [], [], [], [], [], [947], [], [], [], [], [], [], [], [], [947], [], [], [], [], [], [], [947], [], [], [], [], [], [], [], [], [947], [], [], [], [], [], [], [], [], [], [], [947], [], [], [947], [], [], [], [], [], [], [947], [], [], [947], [], [], [], [], [], [], [947], [], [], [947], [], [], [], [], [], [], [], [], [], [], [], [947], [], [], [], [], [947], [], [], [], [], [], [], [], [], [], [], [947], [], [], []]
set_option maxRecDepth 100000 in
theorem k_X12_undo : xall xm_X12_undo xc_X12_undo xp_X12_undo = true := by decide +kernel
theorem o_X12_undo : ∀ q ∈ xm_X12_undo.2, ∃ p, xchk xm_X12_undo q p = true := xall_mem k_X12_undo
def xp_X12_of : List (List Nat) := [[], [], [1087, 1089, 29, 77, 1090], [], [], [], [], [1147], [1048, 1049, 77, 1050], [], [], [], [1056, 1058, 26, 77, 1059], [], [], [], [], [], [], [947], [], [], [1148, 1150, 39, 77, 1151], [], [], [], [], [1092, 1094, 30, 77, 1095], [], [], [], [1092, 1094, 30, 77, 1095], [1108, 1109, 77, 1110], [], [], [], [], [1092, 1094, 30, 77, 1095], [], [], [], [], [1092, 1094, 30, 77, 1095], [], [], [], [], [1092, 1094, 30, 77, 1095], []]
set_option maxRecDepth 100000 in
theorem k_X12_of : xall xm_X12_of xc_X12_of xp_X12_of = true := by decide +kernel
theorem o_X12_of : ∀ q ∈ xm_X12_of.2, ∃ p, xchk xm_X12_of q p = true := xall_mem k_X12_of
def xp_X12_about : List (List Nat) := [[], [], [1100, 1102, 31, 77, 1103], [], [], [], [], [1162], [1048, 1049, 77, 1050], [], [], [], [1056, 1058, 26, 77, 1059], [], [], [], [], [], [], [1115, 1117, 34, 77, 1118], [], [], [], [], [1111, 1113, 33, 77, 1114], []]
set_option maxRecDepth 100000 in
theorem k_X12_about : xall xm_X12_about xc_X12_about xp_X12_about = true := by decide +kernel
theorem o_X12_about : ∀ q ∈ xm_X12_about.2, ∃ p, xchk xm_X12_about q p = true := xall_mem k_X12_about
def xp_X12_shows : List (List Nat) := [[], [], [1087, 1089, 29, 77, 1090], [], [], [1167, 1168, 77, 1169], [], [], [], [], [1148, 1150, 39, 77, 1151], [], [], [], [1056, 1058, 26, 77, 1059], []]
set_option maxRecDepth 100000 in
theorem k_X12_shows : xall xm_X12_shows xc_X12_shows xp_X12_shows = true := by decide +kernel
theorem o_X12_shows : ∀ q ∈ xm_X12_shows.2, ∃ p, xchk xm_X12_shows q p = true := xall_mem k_X12_shows
def xp_X12_suits : List (List Nat) := [[], [], [1087, 1089, 29, 77, 1090], [], [], [], [1100, 1102, 31, 77, 1103], [], [], [1167, 1168, 77, 1169], [], [], [], [1056, 1058, 26, 77, 1059], [], [], [1104, 1106, 32, 77, 1107], [], [], [], [], [1174, 1176, 40, 77, 1177], [], [], [], [], []]
set_option maxRecDepth 100000 in
theorem k_X12_suits : xall xm_X12_suits xc_X12_suits xp_X12_suits = true := by decide +kernel
theorem o_X12_suits : ∀ q ∈ xm_X12_suits.2, ∃ p, xchk xm_X12_suits q p = true := xall_mem k_X12_suits
def xp_X12_judgeRow : List (List Nat) := [[], [], [], [], [], [], [], [], [954], [], [], [], [959], [], [], [], [], [], [], [], [], [], [], [], [959], [], [], [], [], [], [], [], [953], [], [959], [], [], [], [], [], [], [], [], [], [961], [], [], [], [961], [], [], [], [962], [], [], [], [961], [], [], [962], [], [], [], [], [954], [], [], [960], [], [], [959], [], [], [], [], [], []]
set_option maxRecDepth 100000 in
theorem k_X12_judgeRow : xall xm_X12_judgeRow xc_X12_judgeRow xp_X12_judgeRow = true := by decide +kernel
theorem o_X12_judgeRow : ∀ q ∈ xm_X12_judgeRow.2, ∃ p, xchk xm_X12_judgeRow q p = true := xall_mem k_X12_judgeRow
def xp_X12_freeBut : List (List Nat) := [[], [], [1033, 1035, 25, 77, 1036], [], [], [], [], [], [], [], [], [], [], [], [959], [], [], [], [], [], [], [], [], [959], [], [], [], [], [], [], [], [], [], [], []]
set_option maxRecDepth 100000 in
theorem k_X12_freeBut : xall xm_X12_freeBut xc_X12_freeBut xp_X12_freeBut = true := by decide +kernel
theorem o_X12_freeBut : ∀ q ∈ xm_X12_freeBut.2, ∃ p, xchk xm_X12_freeBut q p = true := xall_mem k_X12_freeBut
def xp_X12_nextView : List (List Nat) := [[], [], [], [], [], [], [1033, 1035, 25, 77, 1036], [], [], [], [], [], [], [], [], [], [], []]
set_option maxRecDepth 100000 in
theorem k_X12_nextView : xall xm_X12_nextView xc_X12_nextView xp_X12_nextView = true := by decide +kernel
theorem o_X12_nextView : ∀ q ∈ xm_X12_nextView.2, ∃ p, xchk xm_X12_nextView q p = true := xall_mem k_X12_nextView
def xp_X12_layBest : List (List Nat) := [[], [], [1187, 1189, 42, 77, 1190], [], [], [961], [], [], [962], [], [], [], [959], [], [], [], [], [], [], [], [954], [], [], [1191, 1193, 43, 77, 1194], [], [], [], [959], [], [], [], [], [], [], [], [], [959], [], [], [], [958], [], [], [], [], [1195, 1197, 44, 77, 1198], [], [1199, 1201, 45, 77, 1202], [], [], [959], [], [], [], [], [], [1033, 1035, 25, 77, 1036], [], [], [], [], [], [], [], [], [], [954], [], [], [959], [], [], [], [], []]
set_option maxRecDepth 100000 in
theorem k_X12_layBest : xall xm_X12_layBest xc_X12_layBest xp_X12_layBest = true := by decide +kernel
theorem o_X12_layBest : ∀ q ∈ xm_X12_layBest.2, ∃ p, xchk xm_X12_layBest q p = true := xall_mem k_X12_layBest

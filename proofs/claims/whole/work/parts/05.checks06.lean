def xp_X12_best : List (List Nat) := [[], [1172, 1173, 77, 1174], [], [], [], [1187], [], [1081, 1083, 28, 77, 1084], [], [], [], [1053, 1054, 77, 1055], [], [], [], [1061, 1063, 26, 77, 1064], [], [], [1109, 1111, 32, 77, 1112], [], [], [1188, 1190, 41, 77, 1191], [], [], [], [], [966], [], [], [965], [], [], []]
set_option maxRecDepth 100000 in
theorem k_X12_best : xall xm_X12_best xc_X12_best xp_X12_best = true := by decide +kernel
theorem o_X12_best : ∀ q ∈ xm_X12_best.2, ∃ p, xchk xm_X12_best q p = true := xall_mem k_X12_best
def xp_X12_money : List (List Nat) := [[], [1172, 1173, 77, 1174], [], [], [], [1061, 1063, 26, 77, 1064], [], [], [1109, 1111, 32, 77, 1112], [], [], [1188, 1190, 41, 77, 1191], [], [967], []]
set_option maxRecDepth 100000 in
theorem k_X12_money : xall xm_X12_money xc_X12_money xp_X12_money = true := by decide +kernel
theorem o_X12_money : ∀ q ∈ xm_X12_money.2, ∃ p, xchk xm_X12_money q p = true := xall_mem k_X12_money
def xp_X12_layCome : List (List Nat) := [[], [], [1038, 1040, 25, 77, 1041], [], [], [], [], [], [], [1192, 1194, 42, 77, 1195], [], [], [968], [], [], [969], [], [], [], [], [959], [], [], [], [], [], [], [], [1038, 1040, 25, 77, 1041], [], [], [], [], [], [], [], [], [], [], [963], [], [], [], [], [], [], [], [], [], [], [], [], [], [], [], [], [], [], [958], [], [], [], [958], [], [], [], [], [], [], [], [], [], [], [], [], [], [], [], [], [], [], [], [], [], [], [968], [], [], [968], [], [], [969], [], [958], [], [], [], [969], [], [], []]
set_option maxRecDepth 100000 in
theorem k_X12_layCome : xall xm_X12_layCome xc_X12_layCome xp_X12_layCome = true := by decide +kernel
theorem o_X12_layCome : ∀ q ∈ xm_X12_layCome.2, ∃ p, xchk xm_X12_layCome q p = true := xall_mem k_X12_layCome
def xp_X12_allRenters : List (List Nat) := [[], [], [1081, 1083, 28, 77, 1084], [], [], [], []]
set_option maxRecDepth 100000 in
theorem k_X12_allRenters : xall xm_X12_allRenters xc_X12_allRenters xp_X12_allRenters = true := by decide +kernel
theorem o_X12_allRenters : ∀ q ∈ xm_X12_allRenters.2, ∃ p, xchk xm_X12_allRenters q p = true := xall_mem k_X12_allRenters
def xp_X12_come : List (List Nat) := [[], [1172, 1173, 77, 1174], [], [], [], [], [1216], [1053, 1054, 77, 1055], [], [], [], [1061, 1063, 26, 77, 1064], [], [], [1109, 1111, 32, 77, 1112], [], [], [], [1217, 1219, 46, 77, 1220], [1221, 1223, 47, 77, 1224], [], [], [], [], [], [], [968], [], [], [969], [], [], [], [1188, 1190, 41, 77, 1191], [], [966], [], [968], [], []]
set_option maxRecDepth 100000 in
theorem k_X12_come : xall xm_X12_come xc_X12_come xp_X12_come = true := by decide +kernel
theorem o_X12_come : ∀ q ∈ xm_X12_come.2, ∃ p, xchk xm_X12_come q p = true := xall_mem k_X12_come
def xp_X12_more : List (List Nat) := [[], [1172, 1173, 77, 1174], [], [], [], [], [1076, 1077, 77, 1078], [], [], [], [1061, 1063, 26, 77, 1064], [], [], [1081, 1083, 28, 77, 1084], [], [], [], [1128, 1130, 36, 77, 1131], [], [], [1109, 1111, 32, 77, 1112], [], [], [1188, 1190, 41, 77, 1191], [], [966], [], [], [960], [], [959], [], [], [], [961], [], [959], [], [], [], [962], [], [959], [], [], [], [], [959], [], [], [959], [], [], [1188, 1190, 41, 77, 1191], [], [966], [], [], []]
set_option maxRecDepth 100000 in
theorem k_X12_more : xall xm_X12_more xc_X12_more xp_X12_more = true := by decide +kernel
theorem o_X12_more : ∀ q ∈ xm_X12_more.2, ∃ p, xchk xm_X12_more q p = true := xall_mem k_X12_more
def xp_X12_changed : List (List Nat) := [[], [1172, 1173, 77, 1174], [], [], [], [1092, 1094, 29, 77, 1095], [], [], [], [1061, 1063, 26, 77, 1064], [], [], [], [], [], [], [1109, 1111, 32, 77, 1112], [], [], [], [], [], [], [958], [], [], [], [], [1097, 1099, 30, 77, 1100], [], [1113, 1114, 77, 1115], [], [], [], [1188, 1190, 41, 77, 1191], [], [967], [], [], [], [], [], [], [], [967], [], [], [], [967], [], [], [], [], [], [], []]
set_option maxRecDepth 100000 in
theorem k_X12_changed : xall xm_X12_changed xc_X12_changed xp_X12_changed = true := by decide +kernel
theorem o_X12_changed : ∀ q ∈ xm_X12_changed.2, ∃ p, xchk xm_X12_changed q p = true := xall_mem k_X12_changed
def xp_X12_areOpposite : List (List Nat) := [[], [], [1105, 1107, 31, 77, 1108], [], [], [], [], [], [1105, 1107, 31, 77, 1108], [], [], [], [], []]
set_option maxRecDepth 100000 in
theorem k_X12_areOpposite : xall xm_X12_areOpposite xc_X12_areOpposite xp_X12_areOpposite = true := by decide +kernel
theorem o_X12_areOpposite : ∀ q ∈ xm_X12_areOpposite.2, ∃ p, xchk xm_X12_areOpposite q p = true := xall_mem k_X12_areOpposite
def xp_X12_air : List (List Nat) := [[], [], [1237, 1239, 48, 77, 1240], [], [], [], [1061, 1063, 26, 77, 1064], [], [], [], [1120, 1122, 34, 77, 1123], [], [], [], [], [], [1120, 1122, 34, 77, 1123], [], [], [], [], [], [], [], [], [], [], [], [], [952], [], [], [1153, 1155, 39, 77, 1156], [], [], [], [952], [], [], [1153, 1155, 39, 77, 1156], [], [], [], []]
set_option maxRecDepth 100000 in
theorem k_X12_air : xall xm_X12_air xc_X12_air xp_X12_air = true := by decide +kernel
theorem o_X12_air : ∀ q ∈ xm_X12_air.2, ∃ p, xchk xm_X12_air q p = true := xall_mem k_X12_air
def xp_X12_bring : List (List Nat) := [[], [], [1237, 1239, 48, 77, 1240], [], [], [], [], [], [], [], [1058, 1059, 77, 1060], [], [], [], [], [], [1053, 1054, 77, 1055], [], [], [], [1061, 1063, 26, 77, 1064], [], [], [], [1245], [], [], [1109, 1111, 32, 77, 1112], [], [], [], [], [1038, 1040, 25, 77, 1041], [], [], [], [], [], [1038, 1040, 25, 77, 1041], [], [], [], [], [], [], [], [960], [], [], [1124, 1126, 35, 77, 1127], [], [], [], [], [960], [], [], [], [], [1124, 1126, 35, 77, 1127], [], [], [], [], [], [], [], [], [1120, 1122, 34, 77, 1123], [], [], [], [], [], [], [], [], [], [1120, 1122, 34, 77, 1123], [], [], [], [], [], [], [], [], [], [], [], [], [], [], [952], [], [], [1153, 1155, 39, 77, 1156], [], [], [], [952], [], [], [1153, 1155, 39, 77, 1156], [], [], [], [], [], [], [], [], [], [], [], [], [], [], [], [], [], [], [], [], [], [], [], [], [], [], [], []]
set_option maxRecDepth 100000 in
theorem k_X12_bring : xall xm_X12_bring xc_X12_bring xp_X12_bring = true := by decide +kernel
theorem o_X12_bring : ∀ q ∈ xm_X12_bring.2, ∃ p, xchk xm_X12_bring q p = true := xall_mem k_X12_bring
def xp_X12_left : List (List Nat) := [[], [], [1092, 1094, 29, 77, 1095], [], [], [], [], [1152], [1053, 1054, 77, 1055], [], [], [], [], [1097, 1099, 30, 77, 1100], [], [], [], [], [], [], [], [], [], [1053, 1054, 77, 1055], [], [], [], [1061, 1063, 26, 77, 1064], [], [], [], [], [], [], [], [], [], [952], [], [], [], [], [952], [], [], [], [], [], [], [], [], [], [], [], [952], [], [], [], [], [], [], [], [], [], [], [], [], [], [], [], [952], [], [], [], [], [], [], [], [], [], [], [], [], [], [], [], [], [], [], []]
set_option maxRecDepth 100000 in
theorem k_X12_left : xall xm_X12_left xc_X12_left xp_X12_left = true := by decide +kernel
theorem o_X12_left : ∀ q ∈ xm_X12_left.2, ∃ p, xchk xm_X12_left q p = true := xall_mem k_X12_left
def xp_X12_reading : List (List Nat) := [[], [], [1092, 1094, 29, 77, 1095], [], [], [1172, 1173, 77, 1174], [], [], [1058, 1059, 77, 1060], [], [], [], [1061, 1063, 26, 77, 1064], [], [], [952], [], [], [], [], [], [1065, 1067, 27, 77, 1068], [], [], [], [], [952], [], [], [], [], [], [], [952], [], [], [], [], [952], [], [], [], [], [], [], [952], [], [], [], [], [], [], [952], [], [], [], [], [], [], [], [952], [], [], []]
set_option maxRecDepth 100000 in
theorem k_X12_reading : xall xm_X12_reading xc_X12_reading xp_X12_reading = true := by decide +kernel
theorem o_X12_reading : ∀ q ∈ xm_X12_reading.2, ∃ p, xchk xm_X12_reading q p = true := xall_mem k_X12_reading
def xp_X12_forget : List (List Nat) := [[], [952], [], [], [], [], [952], [], [], [], [], []]
set_option maxRecDepth 100000 in
theorem k_X12_forget : xall xm_X12_forget xc_X12_forget xp_X12_forget = true := by decide +kernel
theorem o_X12_forget : ∀ q ∈ xm_X12_forget.2, ∃ p, xchk xm_X12_forget q p = true := xall_mem k_X12_forget
def xp_X12_mayBe : List (List Nat) := [[], [], [], [], [], [], [952], [], [], [], [], [], [], [], [], [], [], [], [], [952], [], [], [], [], [], [], [], [952], [], [], [], [], [1157, 1158, 77, 1159], [], [952], [], [], [], [], [], [], [], [], [], [], [], [], []]
set_option maxRecDepth 100000 in
theorem k_X12_mayBe : xall xm_X12_mayBe xc_X12_mayBe xp_X12_mayBe = true := by decide +kernel
theorem o_X12_mayBe : ∀ q ∈ xm_X12_mayBe.2, ∃ p, xchk xm_X12_mayBe q p = true := xall_mem k_X12_mayBe
def xp_X12_is : List (List Nat) := [[], [], [1092, 1094, 29, 77, 1095], [], [], [], [], [], [1053, 1054, 77, 1055], [], [], [], [1061, 1063, 26, 77, 1064], [], [], [], [], [], [], [], [], [], [], [], [], [], [], [], [], [], [], [1262, 1264, 49, 77, 1265], [], [], [], [], [], [], [], [], [], [], [], [], [], [], [], [], [], [], [], [], [], [], [], [], [], [], [], [], []]
set_option maxRecDepth 100000 in
theorem k_X12_is : xall xm_X12_is xc_X12_is xp_X12_is = true := by decide +kernel
theorem o_X12_is : ∀ q ∈ xm_X12_is.2, ∃ p, xchk xm_X12_is q p = true := xall_mem k_X12_is
def xp_X12_mostLike : List (List Nat) := [[], [], [], [], [], [], [], [], [970], [], [], [], [], [], [], [], [], [], [], [], [], [], [], [], [], [], [], [1262, 1264, 49, 77, 1265], [], [], [], [], [], [], [], [], [1157, 1158, 77, 1159], [], [], [970], [], [], [], [], [], [], [], [970], [], [], [], [], [], [970], [], [], [], [], [], [], [], [], []]
set_option maxRecDepth 100000 in
theorem k_X12_mostLike : xall xm_X12_mostLike xc_X12_mostLike xp_X12_mostLike = true := by decide +kernel
theorem o_X12_mostLike : ∀ q ∈ xm_X12_mostLike.2, ∃ p, xchk xm_X12_mostLike q p = true := xall_mem k_X12_mostLike
def xp_X12_look : List (List Nat) := [[], [], [1092, 1094, 29, 77, 1095], [], [], [], [1061, 1063, 26, 77, 1064], [], [], [], [1245], [], [], [952], [], [], [], [], [], [952], [], [], [], [], [], [], [], [], [1270, 1272, 50, 77, 1273], [], [], [], [], [], [], [], [], [], [], [], [], [], [], [], [], [], [], [], [], [], [], []]
set_option maxRecDepth 100000 in
theorem k_X12_look : xall xm_X12_look xc_X12_look xp_X12_look = true := by decide +kernel
theorem o_X12_look : ∀ q ∈ xm_X12_look.2, ∃ p, xchk xm_X12_look q p = true := xall_mem k_X12_look
def xp_X12_fraction : List (List Nat) := [[], [], [], [], [], [], [], [], [], [], [], [], [], [], [], [], [], [], [], [], [], [956], [], [], [], [], [957], []]
set_option maxRecDepth 100000 in
theorem k_X12_fraction : xall xm_X12_fraction xc_X12_fraction xp_X12_fraction = true := by decide +kernel
theorem o_X12_fraction : ∀ q ∈ xm_X12_fraction.2, ∃ p, xchk xm_X12_fraction q p = true := xall_mem k_X12_fraction
def xp_X12_odds : List (List Nat) := [[], [], [], [1278], [1053, 1054, 77, 1055], [], [], [], [1061, 1063, 26, 77, 1064], [], [], [], [], [], [], [1109, 1111, 32, 77, 1112], [], [], [], [], [1081, 1083, 28, 77, 1084], [], [], [1278], [], [], [], [], [], [], [], [], [1217, 1219, 46, 77, 1220], [], [], [], [], [], [], [], [1081, 1083, 28, 77, 1084], [], [], [], [], [], [], [], [], [], [], [], [], [], [], [], [], [], [], [], [], [], [], [952], [], [], [], [1221, 1223, 47, 77, 1224], [], [], [], [969], [], [], [], [], [], [], [], [], [], [1279, 1281, 51, 77, 1282], [], []]
set_option maxRecDepth 100000 in
theorem k_X12_odds : xall xm_X12_odds xc_X12_odds xp_X12_odds = true := by decide +kernel
theorem o_X12_odds : ∀ q ∈ xm_X12_odds.2, ∃ p, xchk xm_X12_odds q p = true := xall_mem k_X12_odds

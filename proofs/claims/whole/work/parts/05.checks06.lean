def xp_X12_best : List (List Nat) := [[], [1167, 1168, 77, 1169], [], [], [], [1182], [], [1076, 1078, 28, 77, 1079], [], [], [], [1048, 1049, 77, 1050], [], [], [], [1056, 1058, 26, 77, 1059], [], [], [1104, 1106, 32, 77, 1107], [], [], [1183, 1185, 41, 77, 1186], [], [], [], [], [961], [], [], [960], [], [], []]
set_option maxRecDepth 100000 in
theorem k_X12_best : xall xm_X12_best xc_X12_best xp_X12_best = true := by decide +kernel
theorem o_X12_best : ∀ q ∈ xm_X12_best.2, ∃ p, xchk xm_X12_best q p = true := xall_mem k_X12_best
def xp_X12_money : List (List Nat) := [[], [1167, 1168, 77, 1169], [], [], [], [1056, 1058, 26, 77, 1059], [], [], [1104, 1106, 32, 77, 1107], [], [], [1183, 1185, 41, 77, 1186], [], [962], []]
set_option maxRecDepth 100000 in
theorem k_X12_money : xall xm_X12_money xc_X12_money xp_X12_money = true := by decide +kernel
theorem o_X12_money : ∀ q ∈ xm_X12_money.2, ∃ p, xchk xm_X12_money q p = true := xall_mem k_X12_money
def xp_X12_layCome : List (List Nat) := [[], [], [1033, 1035, 25, 77, 1036], [], [], [], [], [], [], [1187, 1189, 42, 77, 1190], [], [], [963], [], [], [964], [], [], [], [], [954], [], [], [], [], [], [], [], [1033, 1035, 25, 77, 1036], [], [], [], [], [], [], [], [], [], [], [958], [], [], [], [], [], [], [], [], [], [], [], [], [], [], [], [], [], [], [953], [], [], [], [953], [], [], [], [], [], [], [], [], [], [], [], [], [], [], [], [], [], [], [], [], [], [], [963], [], [], [963], [], [], [964], [], [953], [], [], [], [964], [], [], []]
set_option maxRecDepth 100000 in
theorem k_X12_layCome : xall xm_X12_layCome xc_X12_layCome xp_X12_layCome = true := by decide +kernel
theorem o_X12_layCome : ∀ q ∈ xm_X12_layCome.2, ∃ p, xchk xm_X12_layCome q p = true := xall_mem k_X12_layCome
def xp_X12_allRenters : List (List Nat) := [[], [], [1076, 1078, 28, 77, 1079], [], [], [], []]
set_option maxRecDepth 100000 in
theorem k_X12_allRenters : xall xm_X12_allRenters xc_X12_allRenters xp_X12_allRenters = true := by decide +kernel
theorem o_X12_allRenters : ∀ q ∈ xm_X12_allRenters.2, ∃ p, xchk xm_X12_allRenters q p = true := xall_mem k_X12_allRenters
def xp_X12_come : List (List Nat) := [[], [1167, 1168, 77, 1169], [], [], [], [], [1211], [1048, 1049, 77, 1050], [], [], [], [1056, 1058, 26, 77, 1059], [], [], [1104, 1106, 32, 77, 1107], [], [], [], [1212, 1214, 46, 77, 1215], [1216, 1218, 47, 77, 1219], [], [], [], [], [], [], [963], [], [], [964], [], [], [], [1183, 1185, 41, 77, 1186], [], [961], [], [963], [], []]
set_option maxRecDepth 100000 in
theorem k_X12_come : xall xm_X12_come xc_X12_come xp_X12_come = true := by decide +kernel
theorem o_X12_come : ∀ q ∈ xm_X12_come.2, ∃ p, xchk xm_X12_come q p = true := xall_mem k_X12_come
def xp_X12_more : List (List Nat) := [[], [1167, 1168, 77, 1169], [], [], [], [], [1071, 1072, 77, 1073], [], [], [], [1056, 1058, 26, 77, 1059], [], [], [1076, 1078, 28, 77, 1079], [], [], [], [1123, 1125, 36, 77, 1126], [], [], [1104, 1106, 32, 77, 1107], [], [], [1183, 1185, 41, 77, 1186], [], [961], [], [], [955], [], [954], [], [], [], [956], [], [954], [], [], [], [957], [], [954], [], [], [], [], [954], [], [], [954], [], [], [1183, 1185, 41, 77, 1186], [], [961], [], [], []]
set_option maxRecDepth 100000 in
theorem k_X12_more : xall xm_X12_more xc_X12_more xp_X12_more = true := by decide +kernel
theorem o_X12_more : ∀ q ∈ xm_X12_more.2, ∃ p, xchk xm_X12_more q p = true := xall_mem k_X12_more
def xp_X12_changed : List (List Nat) := [[], [1167, 1168, 77, 1169], [], [], [], [1087, 1089, 29, 77, 1090], [], [], [], [1056, 1058, 26, 77, 1059], [], [], [], [], [], [], [1104, 1106, 32, 77, 1107], [], [], [], [], [], [], [953], [], [], [], [], [1092, 1094, 30, 77, 1095], [], [1108, 1109, 77, 1110], [], [], [], [1183, 1185, 41, 77, 1186], [], [962], [], [], [], [], [], [], [], [962], [], [], [], [962], [], [], [], [], [], [], []]
set_option maxRecDepth 100000 in
theorem k_X12_changed : xall xm_X12_changed xc_X12_changed xp_X12_changed = true := by decide +kernel
theorem o_X12_changed : ∀ q ∈ xm_X12_changed.2, ∃ p, xchk xm_X12_changed q p = true := xall_mem k_X12_changed
def xp_X12_areOpposite : List (List Nat) := [[], [], [1100, 1102, 31, 77, 1103], [], [], [], [], [], [1100, 1102, 31, 77, 1103], [], [], [], [], []]
set_option maxRecDepth 100000 in
theorem k_X12_areOpposite : xall xm_X12_areOpposite xc_X12_areOpposite xp_X12_areOpposite = true := by decide +kernel
theorem o_X12_areOpposite : ∀ q ∈ xm_X12_areOpposite.2, ∃ p, xchk xm_X12_areOpposite q p = true := xall_mem k_X12_areOpposite
def xp_X12_air : List (List Nat) := [[], [], [1232, 1234, 48, 77, 1235], [], [], [], [1056, 1058, 26, 77, 1059], [], [], [], [1115, 1117, 34, 77, 1118], [], [], [], [], [], [1115, 1117, 34, 77, 1118], [], [], [], [], [], [], [], [], [], [], [], [], [947], [], [], [1148, 1150, 39, 77, 1151], [], [], [], [947], [], [], [1148, 1150, 39, 77, 1151], [], [], [], []]
set_option maxRecDepth 100000 in
theorem k_X12_air : xall xm_X12_air xc_X12_air xp_X12_air = true := by decide +kernel
theorem o_X12_air : ∀ q ∈ xm_X12_air.2, ∃ p, xchk xm_X12_air q p = true := xall_mem k_X12_air
def xp_X12_bring : List (List Nat) := [[], [], [1232, 1234, 48, 77, 1235], [], [], [], [], [], [], [], [1053, 1054, 77, 1055], [], [], [], [], [], [1048, 1049, 77, 1050], [], [], [], [1056, 1058, 26, 77, 1059], [], [], [], [1240], [], [], [1104, 1106, 32, 77, 1107], [], [], [], [], [1033, 1035, 25, 77, 1036], [], [], [], [], [], [1033, 1035, 25, 77, 1036], [], [], [], [], [], [], [], [955], [], [], [1119, 1121, 35, 77, 1122], [], [], [], [], [955], [], [], [], [], [1119, 1121, 35, 77, 1122], [], [], [], [], [], [], [], [], [1115, 1117, 34, 77, 1118], [], [], [], [], [], [], [], [], [], [1115, 1117, 34, 77, 1118], [], [], [], [], [], [], [], [], [], [], [], [], [], [], [947], [], [], [1148, 1150, 39, 77, 1151], [], [], [], [947], [], [], [1148, 1150, 39, 77, 1151], [], [], [], [], [], [], [], [], [], [], [], [], [], [], [], [], [], [], [], [], [], [], [], [], [], [], [], []]
set_option maxRecDepth 100000 in
theorem k_X12_bring : xall xm_X12_bring xc_X12_bring xp_X12_bring = true := by decide +kernel
theorem o_X12_bring : ∀ q ∈ xm_X12_bring.2, ∃ p, xchk xm_X12_bring q p = true := xall_mem k_X12_bring
def xp_X12_left : List (List Nat) := [[], [], [1087, 1089, 29, 77, 1090], [], [], [], [], [1147], [1048, 1049, 77, 1050], [], [], [], [], [1092, 1094, 30, 77, 1095], [], [], [], [], [], [], [], [], [], [1048, 1049, 77, 1050], [], [], [], [1056, 1058, 26, 77, 1059], [], [], [], [], [], [], [], [], [], [947], [], [], [], [], [947], [], [], [], [], [], [], [], [], [], [], [], [947], [], [], [], [], [], [], [], [], [], [], [], [], [], [], [], [947], [], [], [], [], [], [], [], [], [], [], [], [], [], [], [], [], [], [], []]
set_option maxRecDepth 100000 in
theorem k_X12_left : xall xm_X12_left xc_X12_left xp_X12_left = true := by decide +kernel
theorem o_X12_left : ∀ q ∈ xm_X12_left.2, ∃ p, xchk xm_X12_left q p = true := xall_mem k_X12_left
def xp_X12_reading : List (List Nat) := [[], [], [1087, 1089, 29, 77, 1090], [], [], [1167, 1168, 77, 1169], [], [], [1053, 1054, 77, 1055], [], [], [], [1056, 1058, 26, 77, 1059], [], [], [947], [], [], [], [], [], [1060, 1062, 27, 77, 1063], [], [], [], [], [947], [], [], [], [], [], [], [947], [], [], [], [], [947], [], [], [], [], [], [], [947], [], [], [], [], [], [], [947], [], [], [], [], [], [], [], [947], [], [], []]
set_option maxRecDepth 100000 in
theorem k_X12_reading : xall xm_X12_reading xc_X12_reading xp_X12_reading = true := by decide +kernel
theorem o_X12_reading : ∀ q ∈ xm_X12_reading.2, ∃ p, xchk xm_X12_reading q p = true := xall_mem k_X12_reading
def xp_X12_forget : List (List Nat) := [[], [947], [], [], [], [], [947], [], [], [], [], []]
set_option maxRecDepth 100000 in
theorem k_X12_forget : xall xm_X12_forget xc_X12_forget xp_X12_forget = true := by decide +kernel
theorem o_X12_forget : ∀ q ∈ xm_X12_forget.2, ∃ p, xchk xm_X12_forget q p = true := xall_mem k_X12_forget
def xp_X12_mayBe : List (List Nat) := [[], [], [], [], [], [], [947], [], [], [], [], [], [], [], [], [], [], [], [], [947], [], [], [], [], [], [], [], [947], [], [], [], [], [1152, 1153, 77, 1154], [], [947], [], [], [], [], [], [], [], [], [], [], [], [], []]
set_option maxRecDepth 100000 in
theorem k_X12_mayBe : xall xm_X12_mayBe xc_X12_mayBe xp_X12_mayBe = true := by decide +kernel
theorem o_X12_mayBe : ∀ q ∈ xm_X12_mayBe.2, ∃ p, xchk xm_X12_mayBe q p = true := xall_mem k_X12_mayBe
def xp_X12_is : List (List Nat) := [[], [], [1087, 1089, 29, 77, 1090], [], [], [], [], [], [1048, 1049, 77, 1050], [], [], [], [1056, 1058, 26, 77, 1059], [], [], [], [], [], [], [], [], [], [], [], [], [], [], [], [], [], [], [1257, 1259, 49, 77, 1260], [], [], [], [], [], [], [], [], [], [], [], [], [], [], [], [], [], [], [], [], [], [], [], [], [], [], [], [], []]
set_option maxRecDepth 100000 in
theorem k_X12_is : xall xm_X12_is xc_X12_is xp_X12_is = true := by decide +kernel
theorem o_X12_is : ∀ q ∈ xm_X12_is.2, ∃ p, xchk xm_X12_is q p = true := xall_mem k_X12_is
def xp_X12_mostLike : List (List Nat) := [[], [], [], [], [], [], [], [], [965], [], [], [], [], [], [], [], [], [], [], [], [], [], [], [], [], [], [], [1257, 1259, 49, 77, 1260], [], [], [], [], [], [], [], [], [1152, 1153, 77, 1154], [], [], [965], [], [], [], [], [], [], [], [965], [], [], [], [], [], [965], [], [], [], [], [], [], [], [], []]
set_option maxRecDepth 100000 in
theorem k_X12_mostLike : xall xm_X12_mostLike xc_X12_mostLike xp_X12_mostLike = true := by decide +kernel
theorem o_X12_mostLike : ∀ q ∈ xm_X12_mostLike.2, ∃ p, xchk xm_X12_mostLike q p = true := xall_mem k_X12_mostLike
def xp_X12_look : List (List Nat) := [[], [], [1087, 1089, 29, 77, 1090], [], [], [], [1056, 1058, 26, 77, 1059], [], [], [], [1240], [], [], [947], [], [], [], [], [], [947], [], [], [], [], [], [], [], [], [1265, 1267, 50, 77, 1268], [], [], [], [], [], [], [], [], [], [], [], [], [], [], [], [], [], [], [], [], [], [], []]
set_option maxRecDepth 100000 in
theorem k_X12_look : xall xm_X12_look xc_X12_look xp_X12_look = true := by decide +kernel
theorem o_X12_look : ∀ q ∈ xm_X12_look.2, ∃ p, xchk xm_X12_look q p = true := xall_mem k_X12_look
def xp_X12_fraction : List (List Nat) := [[], [], [], [], [], [], [], [], [], [], [], [], [], [], [], [], [], [], [], [], [], [951], [], [], [], [], [952], []]
set_option maxRecDepth 100000 in
theorem k_X12_fraction : xall xm_X12_fraction xc_X12_fraction xp_X12_fraction = true := by decide +kernel
theorem o_X12_fraction : ∀ q ∈ xm_X12_fraction.2, ∃ p, xchk xm_X12_fraction q p = true := xall_mem k_X12_fraction
def xp_X12_odds : List (List Nat) := [[], [], [], [1273], [1048, 1049, 77, 1050], [], [], [], [1056, 1058, 26, 77, 1059], [], [], [], [], [], [], [1104, 1106, 32, 77, 1107], [], [], [], [], [1076, 1078, 28, 77, 1079], [], [], [1273], [], [], [], [], [], [], [], [], [1212, 1214, 46, 77, 1215], [], [], [], [], [], [], [], [1076, 1078, 28, 77, 1079], [], [], [], [], [], [], [], [], [], [], [], [], [], [], [], [], [], [], [], [], [], [], [947], [], [], [], [1216, 1218, 47, 77, 1219], [], [], [], [964], [], [], [], [], [], [], [], [], [], [1274, 1276, 51, 77, 1277], [], []]
set_option maxRecDepth 100000 in
theorem k_X12_odds : xall xm_X12_odds xc_X12_odds xp_X12_odds = true := by decide +kernel
theorem o_X12_odds : ∀ q ∈ xm_X12_odds.2, ∃ p, xchk xm_X12_odds q p = true := xall_mem k_X12_odds

def xp_X12_drawn : List (List Nat) := [[], [], [], [1282], [1048, 1049, 77, 1050], [], [], [], [], [1283], [1048, 1049, 77, 1050], [], [], [], [], [1284], [1048, 1049, 77, 1050], [], [], [], [1056, 1058, 26, 77, 1059], [], [], [], [], [], [], [], [1104, 1106, 32, 77, 1107], [], [], [], [], [], [], [], [], [], [], [], [1076, 1078, 28, 77, 1079], [], [], [1285], [], [1286], [], [1287], [], [], [], [], [1288], [], [1284], [], [], [], [], [], [], [], [], [], [], [], [], [], [], [], [], [947], [], [], [], [], [], [1216, 1218, 47, 77, 1219], [], [], [963], [], [], [], [], [], []]
set_option maxRecDepth 100000 in
theorem k_X12_drawn : xall xm_X12_drawn xc_X12_drawn xp_X12_drawn = true := by decide +kernel
theorem o_X12_drawn : ∀ q ∈ xm_X12_drawn.2, ∃ p, xchk xm_X12_drawn q p = true := xall_mem k_X12_drawn
def xp_X12_type : List (List Nat) := [[], [], [], [1293], [1048, 1049, 77, 1050], [], [], [], [1056, 1058, 26, 77, 1059], [], [], [967], [], [], [], [1060, 1062, 27, 77, 1063], [], [], [966], [], [967], [], [], [], [], [967], [], [], [967], [], [967], []]
set_option maxRecDepth 100000 in
theorem k_X12_type : xall xm_X12_type xc_X12_type xp_X12_type = true := by decide +kernel
theorem o_X12_type : ∀ q ∈ xm_X12_type.2, ∃ p, xchk xm_X12_type q p = true := xall_mem k_X12_type
def xp_X12_clear : List (List Nat) := [[], [967], [], [], [], [967], [], []]
set_option maxRecDepth 100000 in
theorem k_X12_clear : xall xm_X12_clear xc_X12_clear xp_X12_clear = true := by decide +kernel
theorem o_X12_clear : ∀ q ∈ xm_X12_clear.2, ∃ p, xchk xm_X12_clear q p = true := xall_mem k_X12_clear
def xp_X12_isSmall : List (List Nat) := [[], [], [1309], [1310], [1048, 1049, 77, 1050], []]
set_option maxRecDepth 100000 in
theorem k_X12_isSmall : xall xm_X12_isSmall xc_X12_isSmall xp_X12_isSmall = true := by decide +kernel
theorem o_X12_isSmall : ∀ q ∈ xm_X12_isSmall.2, ∃ p, xchk xm_X12_isSmall q p = true := xall_mem k_X12_isSmall
def xp_X12_isFigure : List (List Nat) := [[], [], [1314], [1315], [1048, 1049, 77, 1050], []]
set_option maxRecDepth 100000 in
theorem k_X12_isFigure : xall xm_X12_isFigure xc_X12_isFigure xp_X12_isFigure = true := by decide +kernel
theorem o_X12_isFigure : ∀ q ∈ xm_X12_isFigure.2, ∃ p, xchk xm_X12_isFigure q p = true := xall_mem k_X12_isFigure
def xp_X12_lookAt : List (List Nat) := [[], [], [968], [], [968], [], [967], [], [], [966], [], [968], [], [], [], [], [], [968], [], [], [968], [], [], [], [969], [], [], [970], [], [], [971], [], [968], [], [967], [], [], [], [966], [], [968], [], [], [], [], [1306, 1307, 77, 1308], [], [], [], [], [1311, 1312, 77, 1313], [], [], [], [], [], [], [], [], [], [970], [], [], [969], [], [970], [], [], [], [], [], [], [], [], [], [968], [], [969], [], [], [967], [], [], [966], [], [968], [], [969], [], [], [], [], [970], [], [], [], [1306, 1307, 77, 1308], [], [], [1311, 1312, 77, 1313], [], [], [], [969], [], [], [], [], [], [], [969], [], [], [], [], [], [969], [], [], [], [], [], [970], [], [], [], [], [], [971], [], [], [966], [], [968], [], [], [], [], [], [], [971], [], [], [], [], [970], [], [], [], [969], [], [], [], [], [], [970], [970], []]
set_option maxRecDepth 100000 in
theorem k_X12_lookAt : xall xm_X12_lookAt xc_X12_lookAt xp_X12_lookAt = true := by decide +kernel
theorem o_X12_lookAt : ∀ q ∈ xm_X12_lookAt.2, ∃ p, xchk xm_X12_lookAt q p = true := xall_mem k_X12_lookAt
def xp_X12_goBehind : List (List Nat) := [[], [], [968], [], [969], [], [1302, 1304, 52, 77, 1305], []]
set_option maxRecDepth 100000 in
theorem k_X12_goBehind : xall xm_X12_goBehind xc_X12_goBehind xp_X12_goBehind = true := by decide +kernel
theorem o_X12_goBehind : ∀ q ∈ xm_X12_goBehind.2, ∃ p, xchk xm_X12_goBehind q p = true := xall_mem k_X12_goBehind
def xp_X12_isCalled : List (List Nat) := [[], [970], [], [], [], [969], [], [], [], [], [], [], [], [], [], [], [], [], [], [], [966], [], [968], [], [], [], [], [], [], [], [], [], [], [], [], [], [], [], [], [], [], [], [], [], [], [], [], [], [], [], [], [], [], [], [], [], [], [], [], []]
set_option maxRecDepth 100000 in
theorem k_X12_isCalled : xall xm_X12_isCalled xc_X12_isCalled xp_X12_isCalled = true := by decide +kernel
theorem o_X12_isCalled : ∀ q ∈ xm_X12_isCalled.2, ∃ p, xchk xm_X12_isCalled q p = true := xall_mem k_X12_isCalled
def xp_X12_takes : List (List Nat) := [[], [970], [], [], [], [971], [], [], [], [], [], [1048, 1049, 77, 1050], [], [], [], [], [973], [], [], [971], [], [], [1320, 1322, 54, 77, 1323], [], []]
set_option maxRecDepth 100000 in
theorem k_X12_takes : xall xm_X12_takes xc_X12_takes xp_X12_takes = true := by decide +kernel
theorem o_X12_takes : ∀ q ∈ xm_X12_takes.2, ∃ p, xchk xm_X12_takes q p = true := xall_mem k_X12_takes
def xp_X12_takesView : List (List Nat) := [[], [972], [], [], [], [], [], [], [], [1320, 1322, 54, 77, 1323], [], [], [], [], [1332, 1334, 57, 77, 1335], [], [], [], [], [], [1332, 1334, 57, 77, 1335], [], [], [], [], [], [1332, 1334, 57, 77, 1335], [], [], [], [], [], [1332, 1334, 57, 77, 1335], [], [], [], [], [972], [], [973], [], [], [], [973], [], [], [], [973], [], [], [], [973], [], [], [1064, 1065, 77, 1066], [], []]
set_option maxRecDepth 100000 in
theorem k_X12_takesView : xall xm_X12_takesView xc_X12_takesView xp_X12_takesView = true := by decide +kernel
theorem o_X12_takesView : ∀ q ∈ xm_X12_takesView.2, ∃ p, xchk xm_X12_takesView q p = true := xall_mem k_X12_takesView
def xp_X12_takesRenter : List (List Nat) := [[], [972], [], [], [], [], [], [], [], [1320, 1322, 54, 77, 1323], [], [], [], [], [1332, 1334, 57, 77, 1335], [], [], [], [], [], [1332, 1334, 57, 77, 1335], [], [], [], [], [], [1332, 1334, 57, 77, 1335], [], [], [], [], [972], [], [973], [], [], [], [973], [], [], [], [973], [], [], [1080, 1081, 77, 1082], [], []]
set_option maxRecDepth 100000 in
theorem k_X12_takesRenter : xall xm_X12_takesRenter xc_X12_takesRenter xp_X12_takesRenter = true := by decide +kernel
theorem o_X12_takesRenter : ∀ q ∈ xm_X12_takesRenter.2, ∃ p, xchk xm_X12_takesRenter q p = true := xall_mem k_X12_takesRenter
def xp_X12_takesThing : List (List Nat) := [[], [1320, 1322, 54, 77, 1323], [], [], [], [], [972], [], [], [], [], [1332, 1334, 57, 77, 1335], [], [], [], [], [], [1332, 1334, 57, 77, 1335], [], [], [], [], [972], [], [], [], [973], [], [], [], [], [], [], [], [], [], [], [973], [], [], [], [], [], [], []]
set_option maxRecDepth 100000 in
theorem k_X12_takesThing : xall xm_X12_takesThing xc_X12_takesThing xp_X12_takesThing = true := by decide +kernel
theorem o_X12_takesThing : ∀ q ∈ xm_X12_takesThing.2, ∃ p, xchk xm_X12_takesThing q p = true := xall_mem k_X12_takesThing
def xp_X12_takesItem : List (List Nat) := [[], [], [], [], [], [], [], [], [1316, 1318, 53, 77, 1319], [], [], [1328, 1330, 56, 77, 1331], [], [], [], [], [], [], [], [], [], [1316, 1318, 53, 77, 1319], [], [], [1336, 1338, 58, 77, 1339], [], [], [], [], [], [], [], [], [], [1316, 1318, 53, 77, 1319], [], [], [1340, 1342, 59, 77, 1343], [], [], [], [], []]
set_option maxRecDepth 100000 in
theorem k_X12_takesItem : xall xm_X12_takesItem xc_X12_takesItem xp_X12_takesItem = true := by decide +kernel
theorem o_X12_takesItem : ∀ q ∈ xm_X12_takesItem.2, ∃ p, xchk xm_X12_takesItem q p = true := xall_mem k_X12_takesItem
def xp_X12_read : List (List Nat) := [[], [], [1302, 1304, 52, 77, 1305], [], [], [], [], [], [], [], [], [1316, 1318, 53, 77, 1319], [], [], [], [968], [], [], [], [1320, 1322, 54, 77, 1323], [], [970], [], [], [], [], [968], [], [], [], [1320, 1322, 54, 77, 1323], [], [972], [1037, 1038, 77, 1039], [], [], [], [970], [], [], [1324, 1326, 55, 77, 1327], [], [], [970], [], [], [], [], [968], [], [], [], [1320, 1322, 54, 77, 1323], [], [], [], [], [], [], [], [], [947], [], [], [972], [], [], [], [], [], [], []]
set_option maxRecDepth 100000 in
theorem k_X12_read : xall xm_X12_read xc_X12_read xp_X12_read = true := by decide +kernel
theorem o_X12_read : ∀ q ∈ xm_X12_read.2, ∃ p, xchk xm_X12_read q p = true := xall_mem k_X12_read
def xp_X12_part : List (List Nat) := [[], [], [], [951], [], [], [], [], [], [952], [], [], [], [1056, 1058, 26, 77, 1059], [], []]
set_option maxRecDepth 100000 in
theorem k_X12_part : xall xm_X12_part xc_X12_part xp_X12_part = true := by decide +kernel
theorem o_X12_part : ∀ q ∈ xm_X12_part.2, ∃ p, xchk xm_X12_part q p = true := xall_mem k_X12_part
def xp_X12_image : List (List Nat) := [[], [], [], [], [1048, 1049, 77, 1050], [], [], [], [1056, 1058, 26, 77, 1059], [], [], [], [], [], [], [], [948], [], [], [], [], [], [], [947], [], [], [], [], [], [], [949], [], [], [], [], []]
set_option maxRecDepth 100000 in
theorem k_X12_image : xall xm_X12_image xc_X12_image xp_X12_image = true := by decide +kernel
theorem o_X12_image : ∀ q ∈ xm_X12_image.2, ∃ p, xchk xm_X12_image q p = true := xall_mem k_X12_image
def xp_X12_from : List (List Nat) := [[], [], [], [], [1048, 1049, 77, 1050], [], [], [], [1056, 1058, 26, 77, 1059], [], [], [949], [], [], [], [], [1123, 1125, 36, 77, 1126], [], [], [], [], [], [], [], [947], [], [], [948], [], [], [], [], [], [], [], [], [], [], []]
set_option maxRecDepth 100000 in
theorem k_X12_from : xall xm_X12_from xc_X12_from xp_X12_from = true := by decide +kernel
theorem o_X12_from : ∀ q ∈ xm_X12_from.2, ∃ p, xchk xm_X12_from q p = true := xall_mem k_X12_from
def xp_X12_status : List (List Nat) := [[], [], [], [1211], [1048, 1049, 77, 1050], [], [], [950], [], [], [], [], [], [1056, 1058, 26, 77, 1059], []]
set_option maxRecDepth 100000 in
theorem k_X12_status : xall xm_X12_status xc_X12_status xp_X12_status = true := by decide +kernel
theorem o_X12_status : ∀ q ∈ xm_X12_status.2, ∃ p, xchk xm_X12_status q p = true := xall_mem k_X12_status
def xp_X12_manyLet : List (List Nat) := [[], [], [], [], [], [], [1033, 1035, 25, 77, 1036], [], [], [], [], [], [1092, 1094, 30, 77, 1095], [], [], [], [], [], [], [], [], [], [], []]
set_option maxRecDepth 100000 in
theorem k_X12_manyLet : xall xm_X12_manyLet xc_X12_manyLet xp_X12_manyLet = true := by decide +kernel
theorem o_X12_manyLet : ∀ q ∈ xm_X12_manyLet.2, ∃ p, xchk xm_X12_manyLet q p = true := xall_mem k_X12_manyLet
def xp_X12_counted : List (List Nat) := [[], [], [], [1369, 1371, 61, 77, 1372], [], [], [947], [], [], [], [], [947], [], [], [], [], [947], [], [], [], [], [967], [], [], [947], [], [], []]
set_option maxRecDepth 100000 in
theorem k_X12_counted : xall xm_X12_counted xc_X12_counted xp_X12_counted = true := by decide +kernel
theorem o_X12_counted : ∀ q ∈ xm_X12_counted.2, ∃ p, xchk xm_X12_counted q p = true := xall_mem k_X12_counted
def xp_X12_count : List (List Nat) := [[], [], [], [1364], [1048, 1049, 77, 1050], [], [], [], [1365, 1367, 60, 77, 1368], [], [], [], [1056, 1058, 26, 77, 1059], []]
set_option maxRecDepth 100000 in
theorem k_X12_count : xall xm_X12_count xc_X12_count xp_X12_count = true := by decide +kernel
theorem o_X12_count : ∀ q ∈ xm_X12_count.2, ∃ p, xchk xm_X12_count q p = true := xall_mem k_X12_count
def xp_X12_sums : List (List Nat) := [[], [], [], [], [], [], [], [1378], [], [], [], [947], [], [], [], [], [], [], [], [], [], [], []]
set_option maxRecDepth 100000 in
theorem k_X12_sums : xall xm_X12_sums xc_X12_sums xp_X12_sums = true := by decide +kernel
theorem o_X12_sums : ∀ q ∈ xm_X12_sums.2, ∃ p, xchk xm_X12_sums q p = true := xall_mem k_X12_sums
def xp_X12_digest : List (List Nat) := [[1377], [], [], [], [], [], [], [1378], [], [], [], [], [1365, 1367, 60, 77, 1368], [], [], [], [], [], [], [], [], [], [], [1033, 1035, 25, 77, 1036], [], [1379, 1381, 62, 77, 1382], [], [], [], [], [], [], [1076, 1078, 28, 77, 1079], [], [1379, 1381, 62, 77, 1382], [], [], [], [], [], [], [947], [], [], [], [1379, 1381, 62, 77, 1382], [], [], [], [], [], [], [947], [], [], [], [1379, 1381, 62, 77, 1382], [], [1378], [1378], [], [], [], [951], [], [], [], [952], [], []]
set_option maxRecDepth 100000 in
theorem k_X12_digest : xall xm_X12_digest xc_X12_digest xp_X12_digest = true := by decide +kernel
theorem o_X12_digest : ∀ q ∈ xm_X12_digest.2, ∃ p, xchk xm_X12_digest q p = true := xall_mem k_X12_digest
def xp_J9_floorMod_7cf53 : List (List Nat) := [[], [], [], [], [], [], [], [], [], [], [], [], [], [], [], []]
set_option maxRecDepth 100000 in
theorem k_J9_floorMod_7cf53 : xall xm_J9_floorMod_7cf53 xc_J9_floorMod_7cf53 xp_J9_floorMod_7cf53 = true := by decide +kernel
theorem o_J9_floorMod_7cf53 : ∀ q ∈ xm_J9_floorMod_7cf53.2, ∃ p, xchk xm_J9_floorMod_7cf53 q p = true := xall_mem k_J9_floorMod_7cf53
def xp_J9_max_7cf53 : List (List Nat) := [[], [], [], [], [], [], []]
set_option maxRecDepth 100000 in
theorem k_J9_max_7cf53 : xall xm_J9_max_7cf53 xc_J9_max_7cf53 xp_J9_max_7cf53 = true := by decide +kernel
theorem o_J9_max_7cf53 : ∀ q ∈ xm_J9_max_7cf53.2, ∃ p, xchk xm_J9_max_7cf53 q p = true := xall_mem k_J9_max_7cf53
def xp_J9_min_7cf53 : List (List Nat) := [[], [], [], [], [], [], []]
set_option maxRecDepth 100000 in
theorem k_J9_min_7cf53 : xall xm_J9_min_7cf53 xc_J9_min_7cf53 xp_J9_min_7cf53 = true := by decide +kernel
theorem o_J9_min_7cf53 : ∀ q ∈ xm_J9_min_7cf53.2, ∃ p, xchk xm_J9_min_7cf53 q p = true := xall_mem k_J9_min_7cf53
def xp_J0_length_8abf5 : List (List Nat) := [[], [1389], [], [], [467, 468, 469, 78, 470], [], []]
set_option maxRecDepth 100000 in
theorem k_J0_length_8abf5 : xall xm_J0_length_8abf5 xc_J0_length_8abf5 xp_J0_length_8abf5 = true := by decide +kernel
theorem o_J0_length_8abf5 : ∀ q ∈ xm_J0_length_8abf5.2, ∃ p, xchk xm_J0_length_8abf5 q p = true := xall_mem k_J0_length_8abf5
def xp_J0_charAt_5068e : List (List Nat) := [[], [477, 478, 479, 78, 480], [], [], [1389], [], [481, 482, 79, 483], [], [], [1389], [], []]
set_option maxRecDepth 100000 in
theorem k_J0_charAt_5068e : xall xm_J0_charAt_5068e xc_J0_charAt_5068e xp_J0_charAt_5068e = true := by decide +kernel
theorem o_J0_charAt_5068e : ∀ q ∈ xm_J0_charAt_5068e.2, ∃ p, xchk xm_J0_charAt_5068e q p = true := xall_mem k_J0_charAt_5068e
def xp_J0_coder_7d493 : List (List Nat) := [[471], [], [], [1390], [], [], []]
set_option maxRecDepth 100000 in
theorem k_J0_coder_7d493 : xall xm_J0_coder_7d493 xc_J0_coder_7d493 xp_J0_coder_7d493 = true := by decide +kernel
theorem o_J0_coder_7d493 : ∀ q ∈ xm_J0_coder_7d493.2, ∃ p, xchk xm_J0_coder_7d493 q p = true := xall_mem k_J0_coder_7d493
def xp_J0_isLatin1_aae02 : List (List Nat) := [[471], [], [], [1390], [], [], [], [], []]
set_option maxRecDepth 100000 in
theorem k_J0_isLatin1_aae02 : xall xm_J0_isLatin1_aae02 xc_J0_isLatin1_aae02 xp_J0_isLatin1_aae02 = true := by decide +kernel
theorem o_J0_isLatin1_aae02 : ∀ q ∈ xm_J0_isLatin1_aae02.2, ∃ p, xchk xm_J0_isLatin1_aae02 q p = true := xall_mem k_J0_isLatin1_aae02
def xp_J0_checkIndex_df160 : List (List Nat) := [[], [], [487], [489, 490, 80, 491], [], []]
set_option maxRecDepth 100000 in
theorem k_J0_checkIndex_df160 : xall xm_J0_checkIndex_df160 xc_J0_checkIndex_df160 xp_J0_checkIndex_df160 = true := by decide +kernel
theorem o_J0_checkIndex_df160 : ∀ q ∈ xm_J0_checkIndex_df160.2, ∃ p, xchk xm_J0_checkIndex_df160 q p = true := xall_mem k_J0_checkIndex_df160
def xp_J1_charAt_3b067 : List (List Nat) := [[], [], [], [484, 485, 78, 486], [], [], [], [], [], [], []]
set_option maxRecDepth 100000 in
theorem k_J1_charAt_3b067 : xall xm_J1_charAt_3b067 xc_J1_charAt_3b067 xp_J1_charAt_3b067 = true := by decide +kernel
theorem o_J1_charAt_3b067 : ∀ q ∈ xm_J1_charAt_3b067.2, ∃ p, xchk xm_J1_charAt_3b067 q p = true := xall_mem k_J1_charAt_3b067

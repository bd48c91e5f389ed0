def xp_X12_drawn : List (List Nat) := [[], [], [], [1287], [1053, 1054, 77, 1055], [], [], [], [], [1288], [1053, 1054, 77, 1055], [], [], [], [], [1289], [1053, 1054, 77, 1055], [], [], [], [1061, 1063, 26, 77, 1064], [], [], [], [], [], [], [], [1109, 1111, 32, 77, 1112], [], [], [], [], [], [], [], [], [], [], [], [1081, 1083, 28, 77, 1084], [], [], [1290], [], [1291], [], [1292], [], [], [], [], [1293], [], [1289], [], [], [], [], [], [], [], [], [], [], [], [], [], [], [], [], [952], [], [], [], [], [], [1221, 1223, 47, 77, 1224], [], [], [968], [], [], [], [], [], []]
set_option maxRecDepth 100000 in
theorem k_X12_drawn : xall xm_X12_drawn xc_X12_drawn xp_X12_drawn = true := by decide +kernel
theorem o_X12_drawn : ∀ q ∈ xm_X12_drawn.2, ∃ p, xchk xm_X12_drawn q p = true := xall_mem k_X12_drawn
def xp_X12_type : List (List Nat) := [[], [], [], [1298], [1053, 1054, 77, 1055], [], [], [], [1061, 1063, 26, 77, 1064], [], [], [972], [], [], [], [1065, 1067, 27, 77, 1068], [], [], [971], [], [972], [], [], [], [], [972], [], [], [972], [], [972], []]
set_option maxRecDepth 100000 in
theorem k_X12_type : xall xm_X12_type xc_X12_type xp_X12_type = true := by decide +kernel
theorem o_X12_type : ∀ q ∈ xm_X12_type.2, ∃ p, xchk xm_X12_type q p = true := xall_mem k_X12_type
def xp_X12_clear : List (List Nat) := [[], [972], [], [], [], [972], [], []]
set_option maxRecDepth 100000 in
theorem k_X12_clear : xall xm_X12_clear xc_X12_clear xp_X12_clear = true := by decide +kernel
theorem o_X12_clear : ∀ q ∈ xm_X12_clear.2, ∃ p, xchk xm_X12_clear q p = true := xall_mem k_X12_clear
def xp_X12_isSmall : List (List Nat) := [[], [], [1314], [1315], [1053, 1054, 77, 1055], []]
set_option maxRecDepth 100000 in
theorem k_X12_isSmall : xall xm_X12_isSmall xc_X12_isSmall xp_X12_isSmall = true := by decide +kernel
theorem o_X12_isSmall : ∀ q ∈ xm_X12_isSmall.2, ∃ p, xchk xm_X12_isSmall q p = true := xall_mem k_X12_isSmall
def xp_X12_isFigure : List (List Nat) := [[], [], [1319], [1320], [1053, 1054, 77, 1055], []]
set_option maxRecDepth 100000 in
theorem k_X12_isFigure : xall xm_X12_isFigure xc_X12_isFigure xp_X12_isFigure = true := by decide +kernel
theorem o_X12_isFigure : ∀ q ∈ xm_X12_isFigure.2, ∃ p, xchk xm_X12_isFigure q p = true := xall_mem k_X12_isFigure
def xp_X12_lookAt : List (List Nat) := [[], [], [973], [], [973], [], [972], [], [], [971], [], [973], [], [], [], [], [], [973], [], [], [973], [], [], [], [974], [], [], [975], [], [], [976], [], [973], [], [972], [], [], [], [971], [], [973], [], [], [], [], [1311, 1312, 77, 1313], [], [], [], [], [1316, 1317, 77, 1318], [], [], [], [], [], [], [], [], [], [975], [], [], [974], [], [975], [], [], [], [], [], [], [], [], [], [973], [], [974], [], [], [972], [], [], [971], [], [973], [], [974], [], [], [], [], [975], [], [], [], [1311, 1312, 77, 1313], [], [], [1316, 1317, 77, 1318], [], [], [], [974], [], [], [], [], [], [], [974], [], [], [], [], [], [974], [], [], [], [], [], [975], [], [], [], [], [], [976], [], [], [971], [], [973], [], [], [], [], [], [], [976], [], [], [], [], [975], [], [], [], [974], [], [], [], [], [], [975], [975], []]
set_option maxRecDepth 100000 in
theorem k_X12_lookAt : xall xm_X12_lookAt xc_X12_lookAt xp_X12_lookAt = true := by decide +kernel
theorem o_X12_lookAt : ∀ q ∈ xm_X12_lookAt.2, ∃ p, xchk xm_X12_lookAt q p = true := xall_mem k_X12_lookAt
def xp_X12_goBehind : List (List Nat) := [[], [], [973], [], [974], [], [1307, 1309, 52, 77, 1310], []]
set_option maxRecDepth 100000 in
theorem k_X12_goBehind : xall xm_X12_goBehind xc_X12_goBehind xp_X12_goBehind = true := by decide +kernel
theorem o_X12_goBehind : ∀ q ∈ xm_X12_goBehind.2, ∃ p, xchk xm_X12_goBehind q p = true := xall_mem k_X12_goBehind
def xp_X12_isCalled : List (List Nat) := [[], [975], [], [], [], [974], [], [], [], [], [], [], [], [], [], [], [], [], [], [], [971], [], [973], [], [], [], [], [], [], [], [], [], [], [], [], [], [], [], [], [], [], [], [], [], [], [], [], [], [], [], [], [], [], [], [], [], [], [], [], []]
set_option maxRecDepth 100000 in
theorem k_X12_isCalled : xall xm_X12_isCalled xc_X12_isCalled xp_X12_isCalled = true := by decide +kernel
theorem o_X12_isCalled : ∀ q ∈ xm_X12_isCalled.2, ∃ p, xchk xm_X12_isCalled q p = true := xall_mem k_X12_isCalled
def xp_X12_takes : List (List Nat) := [[], [975], [], [], [], [976], [], [], [], [], [], [1053, 1054, 77, 1055], [], [], [], [], [978], [], [], [976], [], [], [1325, 1327, 54, 77, 1328], [], []]
set_option maxRecDepth 100000 in
theorem k_X12_takes : xall xm_X12_takes xc_X12_takes xp_X12_takes = true := by decide +kernel
theorem o_X12_takes : ∀ q ∈ xm_X12_takes.2, ∃ p, xchk xm_X12_takes q p = true := xall_mem k_X12_takes
def xp_X12_takesView : List (List Nat) := [[], [977], [], [], [], [], [], [], [], [1325, 1327, 54, 77, 1328], [], [], [], [], [1337, 1339, 57, 77, 1340], [], [], [], [], [], [1337, 1339, 57, 77, 1340], [], [], [], [], [], [1337, 1339, 57, 77, 1340], [], [], [], [], [], [1337, 1339, 57, 77, 1340], [], [], [], [], [977], [], [978], [], [], [], [978], [], [], [], [978], [], [], [], [978], [], [], [1069, 1070, 77, 1071], [], []]
set_option maxRecDepth 100000 in
theorem k_X12_takesView : xall xm_X12_takesView xc_X12_takesView xp_X12_takesView = true := by decide +kernel
theorem o_X12_takesView : ∀ q ∈ xm_X12_takesView.2, ∃ p, xchk xm_X12_takesView q p = true := xall_mem k_X12_takesView
def xp_X12_takesRenter : List (List Nat) := [[], [977], [], [], [], [], [], [], [], [1325, 1327, 54, 77, 1328], [], [], [], [], [1337, 1339, 57, 77, 1340], [], [], [], [], [], [1337, 1339, 57, 77, 1340], [], [], [], [], [], [1337, 1339, 57, 77, 1340], [], [], [], [], [977], [], [978], [], [], [], [978], [], [], [], [978], [], [], [1085, 1086, 77, 1087], [], []]
set_option maxRecDepth 100000 in
theorem k_X12_takesRenter : xall xm_X12_takesRenter xc_X12_takesRenter xp_X12_takesRenter = true := by decide +kernel
theorem o_X12_takesRenter : ∀ q ∈ xm_X12_takesRenter.2, ∃ p, xchk xm_X12_takesRenter q p = true := xall_mem k_X12_takesRenter
def xp_X12_takesThing : List (List Nat) := [[], [1325, 1327, 54, 77, 1328], [], [], [], [], [977], [], [], [], [], [1337, 1339, 57, 77, 1340], [], [], [], [], [], [1337, 1339, 57, 77, 1340], [], [], [], [], [977], [], [], [], [978], [], [], [], [], [], [], [], [], [], [], [978], [], [], [], [], [], [], []]
set_option maxRecDepth 100000 in
theorem k_X12_takesThing : xall xm_X12_takesThing xc_X12_takesThing xp_X12_takesThing = true := by decide +kernel
theorem o_X12_takesThing : ∀ q ∈ xm_X12_takesThing.2, ∃ p, xchk xm_X12_takesThing q p = true := xall_mem k_X12_takesThing
def xp_X12_takesItem : List (List Nat) := [[], [], [], [], [], [], [], [], [1321, 1323, 53, 77, 1324], [], [], [1333, 1335, 56, 77, 1336], [], [], [], [], [], [], [], [], [], [1321, 1323, 53, 77, 1324], [], [], [1341, 1343, 58, 77, 1344], [], [], [], [], [], [], [], [], [], [1321, 1323, 53, 77, 1324], [], [], [1345, 1347, 59, 77, 1348], [], [], [], [], []]
set_option maxRecDepth 100000 in
theorem k_X12_takesItem : xall xm_X12_takesItem xc_X12_takesItem xp_X12_takesItem = true := by decide +kernel
theorem o_X12_takesItem : ∀ q ∈ xm_X12_takesItem.2, ∃ p, xchk xm_X12_takesItem q p = true := xall_mem k_X12_takesItem
def xp_X12_read : List (List Nat) := [[], [], [1307, 1309, 52, 77, 1310], [], [], [], [], [], [], [], [], [1321, 1323, 53, 77, 1324], [], [], [], [973], [], [], [], [1325, 1327, 54, 77, 1328], [], [975], [], [], [], [], [973], [], [], [], [1325, 1327, 54, 77, 1328], [], [977], [1042, 1043, 77, 1044], [], [], [], [975], [], [], [1329, 1331, 55, 77, 1332], [], [], [975], [], [], [], [], [973], [], [], [], [1325, 1327, 54, 77, 1328], [], [], [], [], [], [], [], [], [952], [], [], [977], [], [], [], [], [], [], []]
set_option maxRecDepth 100000 in
theorem k_X12_read : xall xm_X12_read xc_X12_read xp_X12_read = true := by decide +kernel
theorem o_X12_read : ∀ q ∈ xm_X12_read.2, ∃ p, xchk xm_X12_read q p = true := xall_mem k_X12_read
def xp_X12_part : List (List Nat) := [[], [], [], [956], [], [], [], [], [], [957], [], [], [], [1061, 1063, 26, 77, 1064], [], []]
set_option maxRecDepth 100000 in
theorem k_X12_part : xall xm_X12_part xc_X12_part xp_X12_part = true := by decide +kernel
theorem o_X12_part : ∀ q ∈ xm_X12_part.2, ∃ p, xchk xm_X12_part q p = true := xall_mem k_X12_part
def xp_X12_image : List (List Nat) := [[], [], [], [], [1053, 1054, 77, 1055], [], [], [], [1061, 1063, 26, 77, 1064], [], [], [], [], [], [], [], [953], [], [], [], [], [], [], [952], [], [], [], [], [], [], [954], [], [], [], [], []]
set_option maxRecDepth 100000 in
theorem k_X12_image : xall xm_X12_image xc_X12_image xp_X12_image = true := by decide +kernel
theorem o_X12_image : ∀ q ∈ xm_X12_image.2, ∃ p, xchk xm_X12_image q p = true := xall_mem k_X12_image
def xp_X12_from : List (List Nat) := [[], [], [], [], [1053, 1054, 77, 1055], [], [], [], [1061, 1063, 26, 77, 1064], [], [], [954], [], [], [], [], [1128, 1130, 36, 77, 1131], [], [], [], [], [], [], [], [952], [], [], [953], [], [], [], [], [], [], [], [], [], [], []]
set_option maxRecDepth 100000 in
theorem k_X12_from : xall xm_X12_from xc_X12_from xp_X12_from = true := by decide +kernel
theorem o_X12_from : ∀ q ∈ xm_X12_from.2, ∃ p, xchk xm_X12_from q p = true := xall_mem k_X12_from
def xp_X12_status : List (List Nat) := [[], [], [], [1216], [1053, 1054, 77, 1055], [], [], [955], [], [], [], [], [], [1061, 1063, 26, 77, 1064], []]
set_option maxRecDepth 100000 in
theorem k_X12_status : xall xm_X12_status xc_X12_status xp_X12_status = true := by decide +kernel
theorem o_X12_status : ∀ q ∈ xm_X12_status.2, ∃ p, xchk xm_X12_status q p = true := xall_mem k_X12_status
def xp_X12_manyLet : List (List Nat) := [[], [], [], [], [], [], [1038, 1040, 25, 77, 1041], [], [], [], [], [], [1097, 1099, 30, 77, 1100], [], [], [], [], [], [], [], [], [], [], []]
set_option maxRecDepth 100000 in
theorem k_X12_manyLet : xall xm_X12_manyLet xc_X12_manyLet xp_X12_manyLet = true := by decide +kernel
theorem o_X12_manyLet : ∀ q ∈ xm_X12_manyLet.2, ∃ p, xchk xm_X12_manyLet q p = true := xall_mem k_X12_manyLet
def xp_X12_counted : List (List Nat) := [[], [], [], [1374, 1376, 61, 77, 1377], [], [], [952], [], [], [], [], [952], [], [], [], [], [952], [], [], [], [], [972], [], [], [952], [], [], []]
set_option maxRecDepth 100000 in
theorem k_X12_counted : xall xm_X12_counted xc_X12_counted xp_X12_counted = true := by decide +kernel
theorem o_X12_counted : ∀ q ∈ xm_X12_counted.2, ∃ p, xchk xm_X12_counted q p = true := xall_mem k_X12_counted
def xp_X12_count : List (List Nat) := [[], [], [], [1369], [1053, 1054, 77, 1055], [], [], [], [1370, 1372, 60, 77, 1373], [], [], [], [1061, 1063, 26, 77, 1064], []]
set_option maxRecDepth 100000 in
theorem k_X12_count : xall xm_X12_count xc_X12_count xp_X12_count = true := by decide +kernel
theorem o_X12_count : ∀ q ∈ xm_X12_count.2, ∃ p, xchk xm_X12_count q p = true := xall_mem k_X12_count
def xp_X12_sums : List (List Nat) := [[], [], [], [], [], [], [], [1383], [], [], [], [952], [], [], [], [], [], [], [], [], [], [], []]
set_option maxRecDepth 100000 in
theorem k_X12_sums : xall xm_X12_sums xc_X12_sums xp_X12_sums = true := by decide +kernel
theorem o_X12_sums : ∀ q ∈ xm_X12_sums.2, ∃ p, xchk xm_X12_sums q p = true := xall_mem k_X12_sums
def xp_X12_digest : List (List Nat) := [[1382], [], [], [], [], [], [], [1383], [], [], [], [], [1370, 1372, 60, 77, 1373], [], [], [], [], [], [], [], [], [], [], [1038, 1040, 25, 77, 1041], [], [1384, 1386, 62, 77, 1387], [], [], [], [], [], [], [1081, 1083, 28, 77, 1084], [], [1384, 1386, 62, 77, 1387], [], [], [], [], [], [], [952], [], [], [], [1384, 1386, 62, 77, 1387], [], [], [], [], [], [], [952], [], [], [], [1384, 1386, 62, 77, 1387], [], [1383], [1383], [], [], [], [956], [], [], [], [957], [], []]
set_option maxRecDepth 100000 in
theorem k_X12_digest : xall xm_X12_digest xc_X12_digest xp_X12_digest = true := by decide +kernel
theorem o_X12_digest : ∀ q ∈ xm_X12_digest.2, ∃ p, xchk xm_X12_digest q p = true := xall_mem k_X12_digest
def xp_J9_floorMod_7cf53 : List (List Nat) := [[], [], [], [], [], [], [], [], [], [], [], [], [], [], [], []]
set_option maxRecDepth 100000 in
theorem k_J9_floorMod_7cf53 : xall xm_J9_floorMod_7cf53 xc_J9_floorMod_7cf53 xp_J9_floorMod_7cf53 = true := by decide +kernel
theorem o_J9_floorMod_7cf53 : ∀ q ∈ xm_J9_floorMod_7cf53.2, ∃ p, xchk xm_J9_floorMod_7cf53 q p = true := xall_mem k_J9_floorMod_7cf53
def xp_J9_max_7cf53 : List (List Nat) := [[], [], [], [], [], [], []]
set_option maxRecDepth 100000 in
theorem k_J9_max_7cf53 : xall xm_J9_max_7cf53 xc_J9_max_7cf53 xp_J9_max_7cf53 = true := by decide +kernel
theorem o_J9_max_7cf53 : ∀ q ∈ xm_J9_max_7cf53.2, ∃ p, xchk xm_J9_max_7cf53 q p = true := xall_mem k_J9_max_7cf53
def xp_J9_min_7cf53 : List (List Nat) := [[], [], [], [], [], [], []]
set_option maxRecDepth 100000 in
theorem k_J9_min_7cf53 : xall xm_J9_min_7cf53 xc_J9_min_7cf53 xp_J9_min_7cf53 = true := by decide +kernel
theorem o_J9_min_7cf53 : ∀ q ∈ xm_J9_min_7cf53.2, ∃ p, xchk xm_J9_min_7cf53 q p = true := xall_mem k_J9_min_7cf53
def xp_J0_length_8abf5 : List (List Nat) := [[], [1394], [], [], [474, 475, 476, 79, 477], [], []]
set_option maxRecDepth 100000 in
theorem k_J0_length_8abf5 : xall xm_J0_length_8abf5 xc_J0_length_8abf5 xp_J0_length_8abf5 = true := by decide +kernel
theorem o_J0_length_8abf5 : ∀ q ∈ xm_J0_length_8abf5.2, ∃ p, xchk xm_J0_length_8abf5 q p = true := xall_mem k_J0_length_8abf5
def xp_J0_charAt_5068e : List (List Nat) := [[], [484, 485, 486, 79, 487], [], [], [1394], [], [488, 489, 80, 490], [], [], [1394], [], []]
set_option maxRecDepth 100000 in
theorem k_J0_charAt_5068e : xall xm_J0_charAt_5068e xc_J0_charAt_5068e xp_J0_charAt_5068e = true := by decide +kernel
theorem o_J0_charAt_5068e : ∀ q ∈ xm_J0_charAt_5068e.2, ∃ p, xchk xm_J0_charAt_5068e q p = true := xall_mem k_J0_charAt_5068e
def xp_J0_coder_7d493 : List (List Nat) := [[478], [], [], [1395], [], [], []]
set_option maxRecDepth 100000 in
theorem k_J0_coder_7d493 : xall xm_J0_coder_7d493 xc_J0_coder_7d493 xp_J0_coder_7d493 = true := by decide +kernel
theorem o_J0_coder_7d493 : ∀ q ∈ xm_J0_coder_7d493.2, ∃ p, xchk xm_J0_coder_7d493 q p = true := xall_mem k_J0_coder_7d493
def xp_J0_isLatin1_aae02 : List (List Nat) := [[478], [], [], [1395], [], [], [], [], []]
set_option maxRecDepth 100000 in
theorem k_J0_isLatin1_aae02 : xall xm_J0_isLatin1_aae02 xc_J0_isLatin1_aae02 xp_J0_isLatin1_aae02 = true := by decide +kernel
theorem o_J0_isLatin1_aae02 : ∀ q ∈ xm_J0_isLatin1_aae02.2, ∃ p, xchk xm_J0_isLatin1_aae02 q p = true := xall_mem k_J0_isLatin1_aae02
def xp_J0_checkIndex_df160 : List (List Nat) := [[], [], [494], [496, 497, 81, 498], [], []]
set_option maxRecDepth 100000 in
theorem k_J0_checkIndex_df160 : xall xm_J0_checkIndex_df160 xc_J0_checkIndex_df160 xp_J0_checkIndex_df160 = true := by decide +kernel
theorem o_J0_checkIndex_df160 : ∀ q ∈ xm_J0_checkIndex_df160.2, ∃ p, xchk xm_J0_checkIndex_df160 q p = true := xall_mem k_J0_checkIndex_df160
def xp_J1_charAt_3b067 : List (List Nat) := [[], [], [], [491, 492, 79, 493], [], [], [], [], [], [], []]
set_option maxRecDepth 100000 in
theorem k_J1_charAt_3b067 : xall xm_J1_charAt_3b067 xc_J1_charAt_3b067 xp_J1_charAt_3b067 = true := by decide +kernel
theorem o_J1_charAt_3b067 : ∀ q ∈ xm_J1_charAt_3b067.2, ∃ p, xchk xm_J1_charAt_3b067 q p = true := xall_mem k_J1_charAt_3b067

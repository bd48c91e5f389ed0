def xp_X0_init : List (List Nat) := [[], [224, 90, 91], [], [], [122], [235], [], [], [122], [239], [], [], [122], [242], [], [], [122], [244], [], [], [122], [246], []]
set_option maxRecDepth 100000 in
theorem k_X0_init : xall xm_X0_init xc_X0_init xp_X0_init = true := by decide +kernel
theorem o_X0_init : ∀ q ∈ xm_X0_init.2, ∃ p, xchk xm_X0_init q p = true := xall_mem k_X0_init
def xp_X0_empty : List (List Nat) := [[], [], [225], [], [], [230], [], [], [232], [], [274, 275, 276, 75, 277], []]
set_option maxRecDepth 100000 in
theorem k_X0_empty : xall xm_X0_empty xc_X0_empty xp_X0_empty = true := by decide +kernel
theorem o_X0_empty : ∀ q ∈ xm_X0_empty.2, ∃ p, xchk xm_X0_empty q p = true := xall_mem k_X0_empty
def xp_X0_copyFrom : List (List Nat) := [[], [], [225], [225], [], [], [230], [230], [], [], [232], [232], [], [235], [], [], [235], [], [], [620, 622, 621, 82], [], [239], [], [], [239], [], [], [620, 622, 621, 82], [], [242], [], [], [242], [], [], [620, 622, 621, 82], [], [244], [], [], [244], [], [], [620, 622, 621, 82], [], [246], [], [], [246], [], [], [620, 622, 621, 82], []]
set_option maxRecDepth 100000 in
theorem k_X0_copyFrom : xall xm_X0_copyFrom xc_X0_copyFrom xp_X0_copyFrom = true := by decide +kernel
theorem o_X0_copyFrom : ∀ q ∈ xm_X0_copyFrom.2, ∃ p, xchk xm_X0_copyFrom q p = true := xall_mem k_X0_copyFrom
def xp_X0_bringAllBack : List (List Nat) := [[], [239], [], [278, 279, 76, 280], []]
set_option maxRecDepth 100000 in
theorem k_X0_bringAllBack : xall xm_X0_bringAllBack xc_X0_bringAllBack xp_X0_bringAllBack = true := by decide +kernel
theorem o_X0_bringAllBack : ∀ q ∈ xm_X0_bringAllBack.2, ∃ p, xchk xm_X0_bringAllBack q p = true := xall_mem k_X0_bringAllBack
def xp_X0_write : List (List Nat) := [[], [235], [], [], [], [], [], [], [], [], [230], [], [], [230], [], [239], [], [], [], [], [232], [], [], [], [628, 630, 14, 75, 631], [], [242], [], [232], [], [], [], [244], [], [232], [], [], [], [246], [], [232], [], [225], [], [], [], [232], [], [], [232], []]
set_option maxRecDepth 100000 in
theorem k_X0_write : xall xm_X0_write xc_X0_write xp_X0_write = true := by decide +kernel
theorem o_X0_write : ∀ q ∈ xm_X0_write.2, ∃ p, xchk xm_X0_write q p = true := xall_mem k_X0_write
def xp_X0_dropFirstLetting : List (List Nat) := [[], [242], [], [], [242], [], [], [620, 622, 621, 82], [], [244], [], [], [244], [], [], [620, 622, 621, 82], [], [246], [], [], [246], [], [], [620, 622, 621, 82], [], [], [232], []]
set_option maxRecDepth 100000 in
theorem k_X0_dropFirstLetting : xall xm_X0_dropFirstLetting xc_X0_dropFirstLetting xp_X0_dropFirstLetting = true := by decide +kernel
theorem o_X0_dropFirstLetting : ∀ q ∈ xm_X0_dropFirstLetting.2, ∃ p, xchk xm_X0_dropFirstLetting q p = true := xall_mem k_X0_dropFirstLetting
def xp_X0_viewHeldBy : List (List Nat) := [[], [], [], [], [], [], [239], [], [], [], [], [], [], [], [], [], []]
set_option maxRecDepth 100000 in
theorem k_X0_viewHeldBy : xall xm_X0_viewHeldBy xc_X0_viewHeldBy xp_X0_viewHeldBy = true := by decide +kernel
theorem o_X0_viewHeldBy : ∀ q ∈ xm_X0_viewHeldBy.2, ∃ p, xchk xm_X0_viewHeldBy q p = true := xall_mem k_X0_viewHeldBy
def xp_X0_letNow : List (List Nat) := [[], [], [], [], [], [], [], [], [239], [], [], [], [], [], [], [], [], []]
set_option maxRecDepth 100000 in
theorem k_X0_letNow : xall xm_X0_letNow xc_X0_letNow xp_X0_letNow = true := by decide +kernel
theorem o_X0_letNow : ∀ q ∈ xm_X0_letNow.2, ∃ p, xchk xm_X0_letNow q p = true := xall_mem k_X0_letNow
def xp_X0_rentersWhoHad : List (List Nat) := [[], [], [], [], [], [], [232], [], [], [242], [], [], [], [], [], [], [], [244], [], [], [], [], [], [], [], [], []]
set_option maxRecDepth 100000 in
theorem k_X0_rentersWhoHad : xall xm_X0_rentersWhoHad xc_X0_rentersWhoHad xp_X0_rentersWhoHad = true := by decide +kernel
theorem o_X0_rentersWhoHad : ∀ q ∈ xm_X0_rentersWhoHad.2, ∃ p, xchk xm_X0_rentersWhoHad q p = true := xall_mem k_X0_rentersWhoHad
def xp_X0_firstEveningOf : List (List Nat) := [[], [], [], [], [232], [], [], [242], [], [], [], [], [], [246], [], [], [], [], [], [], []]
set_option maxRecDepth 100000 in
theorem k_X0_firstEveningOf : xall xm_X0_firstEveningOf xc_X0_firstEveningOf xp_X0_firstEveningOf = true := by decide +kernel
theorem o_X0_firstEveningOf : ∀ q ∈ xm_X0_firstEveningOf.2, ∃ p, xchk xm_X0_firstEveningOf q p = true := xall_mem k_X0_firstEveningOf
def xp_X1_init : List (List Nat) := [[], [210, 180, 69, 181], []]
set_option maxRecDepth 100000 in
theorem k_X1_init : xall xm_X1_init xc_X1_init xp_X1_init = true := by decide +kernel
theorem o_X1_init : ∀ q ∈ xm_X1_init.2, ∃ p, xchk xm_X1_init q p = true := xall_mem k_X1_init
def xp_X1_fee : List (List Nat) := [[], [], [592, 588, 211, 586, 69, 607], [], [], []]
set_option maxRecDepth 100000 in
theorem k_X1_fee : xall xm_X1_fee xc_X1_fee xp_X1_fee = true := by decide +kernel
theorem o_X1_fee : ∀ q ∈ xm_X1_fee.2, ∃ p, xchk xm_X1_fee q p = true := xall_mem k_X1_fee
def xp_X1_fits : List (List Nat) := [[], []]
set_option maxRecDepth 100000 in
theorem k_X1_fits : xall xm_X1_fits xc_X1_fits xp_X1_fits = true := by decide +kernel
theorem o_X1_fits : ∀ q ∈ xm_X1_fits.2, ∃ p, xchk xm_X1_fits q p = true := xall_mem k_X1_fits
def xp_X2_init : List (List Nat) := [[], [128, 90, 91], [], [], [122], [133], [], [], [122], [134], [], [], [122], [135], [], [], [], [129, 130, 122], [136], [], [], [122], [137], []]
set_option maxRecDepth 100000 in
theorem k_X2_init : xall xm_X2_init xc_X2_init xp_X2_init = true := by decide +kernel
theorem o_X2_init : ∀ q ∈ xm_X2_init.2, ∃ p, xchk xm_X2_init q p = true := xall_mem k_X2_init
def xp_X2_suitedIn : List (List Nat) := [[], [], [], []]
set_option maxRecDepth 100000 in
theorem k_X2_suitedIn : xall xm_X2_suitedIn xc_X2_suitedIn xp_X2_suitedIn = true := by decide +kernel
theorem o_X2_suitedIn : ∀ q ∈ xm_X2_suitedIn.2, ∃ p, xchk xm_X2_suitedIn q p = true := xall_mem k_X2_suitedIn
def xp_X2_moneyIn : List (List Nat) := [[], [], [], []]
set_option maxRecDepth 100000 in
theorem k_X2_moneyIn : xall xm_X2_moneyIn xc_X2_moneyIn xp_X2_moneyIn = true := by decide +kernel
theorem o_X2_moneyIn : ∀ q ∈ xm_X2_moneyIn.2, ∃ p, xchk xm_X2_moneyIn q p = true := xall_mem k_X2_moneyIn
def xp_X2_open : List (List Nat) := [[], [], [285], [131], [], [], [132], [], [], [], [], [131], [], [], [134], [], [], [], [701, 578, 579, 68, 580], [], [], [135], [], [], [], [], [702, 654, 655, 68, 656], [], [], [], [], [], [], [], [290], [], [], [], [], [308], [], [], [], [320], [236], [], [], [], [311], [], [], [703, 704, 705, 66, 706], [], [], []]
set_option maxRecDepth 100000 in
theorem k_X2_open : xall xm_X2_open xc_X2_open xp_X2_open = true := by decide +kernel
theorem o_X2_open : ∀ q ∈ xm_X2_open.2, ∃ p, xchk xm_X2_open q p = true := xall_mem k_X2_open
def xp_X2_addRenter : List (List Nat) := [[], [132], [], [], [], [], [], [], [], [], [], [131], [], [], [134], [], [], [], [], [], [], [], [], [], [707, 709, 16, 66, 710], [], [], [], [], [], [], [], [], [], [], [133], [], [132], [], [], [], [], [132], [], [], [132], []]
set_option maxRecDepth 100000 in
theorem k_X2_addRenter : xall xm_X2_addRenter xc_X2_addRenter xp_X2_addRenter = true := by decide +kernel
theorem o_X2_addRenter : ∀ q ∈ xm_X2_addRenter.2, ∃ p, xchk xm_X2_addRenter q p = true := xall_mem k_X2_addRenter
def xp_X2_suitsAtAnyPrice : List (List Nat) := [[], [], [], [711, 562, 563, 68, 564], [], [], [], [], [], [], [135], [], [], [], [], [], [], []]
set_option maxRecDepth 100000 in
theorem k_X2_suitsAtAnyPrice : xall xm_X2_suitsAtAnyPrice xc_X2_suitsAtAnyPrice xp_X2_suitsAtAnyPrice = true := by decide +kernel
theorem o_X2_suitsAtAnyPrice : ∀ q ∈ xm_X2_suitsAtAnyPrice.2, ∃ p, xchk xm_X2_suitsAtAnyPrice q p = true := xall_mem k_X2_suitsAtAnyPrice
def xp_X2_isSuited : List (List Nat) := [[], [133], [], [], [], [], [], [], [], [], [], [], [], []]
set_option maxRecDepth 100000 in
theorem k_X2_isSuited : xall xm_X2_isSuited xc_X2_isSuited xp_X2_isSuited = true := by decide +kernel
theorem o_X2_isSuited : ∀ q ∈ xm_X2_isSuited.2, ∃ p, xchk xm_X2_isSuited q p = true := xall_mem k_X2_isSuited
def xp_X2_solve : List (List Nat) := [[], [], [131], [], [], [], [], [], [136], [], [132], [], [], [724, 279, 76, 280], [], [132], [], [], [], [], [], [], [], [], [], [], [], [136], [], [], [], [], [], [], [725, 727, 17, 66, 728], [], [], [], [], [], [], [136], [], [], [], [], []]
set_option maxRecDepth 100000 in
theorem k_X2_solve : xall xm_X2_solve xc_X2_solve xp_X2_solve = true := by decide +kernel
theorem o_X2_solve : ∀ q ∈ xm_X2_solve.2, ∃ p, xchk xm_X2_solve q p = true := xall_mem k_X2_solve
def xp_X2_mostFor : List (List Nat) := [[], [136], [], [], [], [], [], [], [], [], [], [], [133], [], [], [], [], [], [], [], [], [], [131], [], [], [], [], [], [], [], [], [], [], [], [134], [], [], [], [], [], [], [], [], [], [], [], [729, 730, 83, 731], [], [], [], [], []]
set_option maxRecDepth 100000 in
theorem k_X2_mostFor : xall xm_X2_mostFor xc_X2_mostFor xp_X2_mostFor = true := by decide +kernel
theorem o_X2_mostFor : ∀ q ∈ xm_X2_mostFor.2, ∃ p, xchk xm_X2_mostFor q p = true := xall_mem k_X2_mostFor
def xp_X2_viewInBest : List (List Nat) := [[], [], [131], [], [], [], [], [], [], [], [], [], [], [], [], [], [132], [], [], [], [], [739, 741, 18, 66, 742], [], [], [], [], [], [], [], [], [], [], [], [], [], []]
set_option maxRecDepth 100000 in
theorem k_X2_viewInBest : xall xm_X2_viewInBest xc_X2_viewInBest xp_X2_viewInBest = true := by decide +kernel
theorem o_X2_viewInBest : ∀ q ∈ xm_X2_viewInBest.2, ∃ p, xchk xm_X2_viewInBest q p = true := xall_mem k_X2_viewInBest
def xp_X2_firstBest : List (List Nat) := [[], [136], [], [], [], [], [], [], [136], [], [], [], [], [], [], [], [], [], [], [], [], [], [133], [], [], [], [], [], [], [], [], [], [131], [], [], [], [], [], [], [], [], [], [], [134], [], [], [], [], [], [], [], [], [], [], [], [], [], [], [], [], [], [], []]
set_option maxRecDepth 100000 in
theorem k_X2_firstBest : xall xm_X2_firstBest xc_X2_firstBest xp_X2_firstBest = true := by decide +kernel
theorem o_X2_firstBest : ∀ q ∈ xm_X2_firstBest.2, ∃ p, xchk xm_X2_firstBest q p = true := xall_mem k_X2_firstBest
def xp_X2_asTheyCome : List (List Nat) := [[], [], [131], [], [], [], [], [], [], [], [], [], [], [132], [], [], [], [], [], [], [], [], [], [], [133], [], [], [], [], [758, 760, 19, 66, 761], [], [], [], [], [], [], [], [], [], [], [], [], [], [], [], [134], [], [], [], [], [], [], [], [], []]
set_option maxRecDepth 100000 in
theorem k_X2_asTheyCome : xall xm_X2_asTheyCome xc_X2_asTheyCome xp_X2_asTheyCome = true := by decide +kernel
theorem o_X2_asTheyCome : ∀ q ∈ xm_X2_asTheyCome.2, ∃ p, xchk xm_X2_asTheyCome q p = true := xall_mem k_X2_asTheyCome
def xp_X2_dearest : List (List Nat) := [[], [], [], [], [], [], [131], [], [], [], [], [], [], [], [], [], [], [], [], [134], [], [], [], [134], [], [], [], [], [], [], [], [], []]
set_option maxRecDepth 100000 in
theorem k_X2_dearest : xall xm_X2_dearest xc_X2_dearest xp_X2_dearest = true := by decide +kernel
theorem o_X2_dearest : ∀ q ∈ xm_X2_dearest.2, ∃ p, xchk xm_X2_dearest q p = true := xall_mem k_X2_dearest
def xp_X2_priceForMostMoney : List (List Nat) := [[], [], [], [775, 698, 699, 66, 700], [], [], [], [], [132], [], [], [133], [], [], [], [], [], [], [], [], [], [], [], [], [], [776, 721, 722, 66, 723], [], [], [], [], [], [132], [], [], [], [], [], [308], [], [], [], [311], [], [], [707, 709, 16, 66, 710], [], [], [137], [], [], [], [], [], [], [777, 779, 20, 66, 780], [], [], [], [], [], [], [], [], [], [], [], [], [], [], [], [], [], [], [], [], [781, 582, 583, 68, 584], [], [782, 784, 21, 66, 785], [786, 748, 66, 749], [], [], [], [], [], [], [], [], [], [], [], []]
set_option maxRecDepth 100000 in
theorem k_X2_priceForMostMoney : xall xm_X2_priceForMostMoney xc_X2_priceForMostMoney xp_X2_priceForMostMoney = true := by decide +kernel
theorem o_X2_priceForMostMoney : ∀ q ∈ xm_X2_priceForMostMoney.2, ∃ p, xchk xm_X2_priceForMostMoney q p = true := xall_mem k_X2_priceForMostMoney
def xp_X2_solveWithout : List (List Nat) := [[], [133], [], [], [], [], [133], [], [], [], [], [776, 721, 722, 66, 723], [], [], [133], [], [], [], [], []]
set_option maxRecDepth 100000 in
theorem k_X2_solveWithout : xall xm_X2_solveWithout xc_X2_solveWithout xp_X2_solveWithout = true := by decide +kernel
theorem o_X2_solveWithout : ∀ q ∈ xm_X2_solveWithout.2, ∃ p, xchk xm_X2_solveWithout q p = true := xall_mem k_X2_solveWithout
def xp_X2_mostAtFee : List (List Nat) := [[], [], [], [], [], [], [132], [], [], [137], [], [], [], [], [], [], [320], [236], [], [], [], [], [], [137], [], [], [], [], [729, 730, 83, 731], [], [], [], [], []]
set_option maxRecDepth 100000 in
theorem k_X2_mostAtFee : xall xm_X2_mostAtFee xc_X2_mostAtFee xp_X2_mostAtFee = true := by decide +kernel
theorem o_X2_mostAtFee : ∀ q ∈ xm_X2_mostAtFee.2, ∃ p, xchk xm_X2_mostAtFee q p = true := xall_mem k_X2_mostAtFee
def xp_X2_weighedMoney : List (List Nat) := [[], [], [], [], [], [], [], [132], [], [], [], [], [], [], [], [], [132], [], [], [], [], [], [], [], [], [], [], [], [], [], [], [], [], [], [], [], [], [], [], [], [], [], [], [], [], [880, 755, 756, 66, 757], [786, 748, 66, 749], [], [], [], [], [], [], [], []]
set_option maxRecDepth 100000 in
theorem k_X2_weighedMoney : xall xm_X2_weighedMoney xc_X2_weighedMoney xp_X2_weighedMoney = true := by decide +kernel
theorem o_X2_weighedMoney : ∀ q ∈ xm_X2_weighedMoney.2, ∃ p, xchk xm_X2_weighedMoney q p = true := xall_mem k_X2_weighedMoney
def xp_X2_suitedByDraw : List (List Nat) := [[], [], [], [], [], [], [], [], [], [], [], [], [], [320], [229], [], [], [775, 698, 699, 66, 700], [], [], [], [], [], [], [132], [], [], [894], [], [895], [], [896], [], [], [], [897], [], [898], [], [], [], [], [], [], [], [], [], [], [], [], [], [], [], [], [880, 755, 756, 66, 757], [899, 733, 66, 734], [], [], [], [], [], []]
set_option maxRecDepth 100000 in
theorem k_X2_suitedByDraw : xall xm_X2_suitedByDraw xc_X2_suitedByDraw xp_X2_suitedByDraw = true := by decide +kernel
theorem o_X2_suitedByDraw : ∀ q ∈ xm_X2_suitedByDraw.2, ∃ p, xchk xm_X2_suitedByDraw q p = true := xall_mem k_X2_suitedByDraw
def xp_X3_init : List (List Nat) := [[], [196, 180, 69, 181], []]
set_option maxRecDepth 100000 in
theorem k_X3_init : xall xm_X3_init xc_X3_init xp_X3_init = true := by decide +kernel
theorem o_X3_init : ∀ q ∈ xm_X3_init.2, ∃ p, xchk xm_X3_init q p = true := xall_mem k_X3_init
def xp_X3_showing : List (List Nat) := [[], [], [], [665, 660, 197, 658, 69, 679], [], [], [], [], [], [], [], []]
set_option maxRecDepth 100000 in
theorem k_X3_showing : xall xm_X3_showing xc_X3_showing xp_X3_showing = true := by decide +kernel
theorem o_X3_showing : ∀ q ∈ xm_X3_showing.2, ∃ p, xchk xm_X3_showing q p = true := xall_mem k_X3_showing
def xp_X3_fee : List (List Nat) := [[], [], [], [596, 588, 197, 586, 69, 607], [], []]
set_option maxRecDepth 100000 in
theorem k_X3_fee : xall xm_X3_fee xc_X3_fee xp_X3_fee = true := by decide +kernel
theorem o_X3_fee : ∀ q ∈ xm_X3_fee.2, ∃ p, xchk xm_X3_fee q p = true := xall_mem k_X3_fee

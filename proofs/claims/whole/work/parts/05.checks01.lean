def xp_X0_init : List (List Nat) := [[], [223, 90, 91], [], [], [164], [234], [], [], [164], [238], [], [], [164], [241], [], [], [164], [243], [], [], [164], [245], []]
set_option maxRecDepth 100000 in
theorem k_X0_init : xall xm_X0_init xc_X0_init xp_X0_init = true := by decide +kernel
theorem o_X0_init : ∀ q ∈ xm_X0_init.2, ∃ p, xchk xm_X0_init q p = true := xall_mem k_X0_init
def xp_X0_empty : List (List Nat) := [[], [], [224], [], [], [229], [], [], [231], [], [273, 274, 275, 75, 276], []]
set_option maxRecDepth 100000 in
theorem k_X0_empty : xall xm_X0_empty xc_X0_empty xp_X0_empty = true := by decide +kernel
theorem o_X0_empty : ∀ q ∈ xm_X0_empty.2, ∃ p, xchk xm_X0_empty q p = true := xall_mem k_X0_empty
def xp_X0_copyFrom : List (List Nat) := [[], [], [224], [224], [], [], [229], [229], [], [], [231], [231], [], [234], [], [], [234], [], [], [627, 629, 628, 83], [], [238], [], [], [238], [], [], [627, 629, 628, 83], [], [241], [], [], [241], [], [], [627, 629, 628, 83], [], [243], [], [], [243], [], [], [627, 629, 628, 83], [], [245], [], [], [245], [], [], [627, 629, 628, 83], []]
set_option maxRecDepth 100000 in
theorem k_X0_copyFrom : xall xm_X0_copyFrom xc_X0_copyFrom xp_X0_copyFrom = true := by decide +kernel
theorem o_X0_copyFrom : ∀ q ∈ xm_X0_copyFrom.2, ∃ p, xchk xm_X0_copyFrom q p = true := xall_mem k_X0_copyFrom
def xp_X0_bringAllBack : List (List Nat) := [[], [238], [], [277, 278, 76, 279], []]
set_option maxRecDepth 100000 in
theorem k_X0_bringAllBack : xall xm_X0_bringAllBack xc_X0_bringAllBack xp_X0_bringAllBack = true := by decide +kernel
theorem o_X0_bringAllBack : ∀ q ∈ xm_X0_bringAllBack.2, ∃ p, xchk xm_X0_bringAllBack q p = true := xall_mem k_X0_bringAllBack
def xp_X0_write : List (List Nat) := [[], [234], [], [], [], [], [], [], [], [], [229], [], [], [229], [], [238], [], [], [], [], [231], [], [], [], [635, 637, 14, 75, 638], [], [241], [], [231], [], [], [], [243], [], [231], [], [], [], [245], [], [231], [], [224], [], [], [], [231], [], [], [231], []]
set_option maxRecDepth 100000 in
theorem k_X0_write : xall xm_X0_write xc_X0_write xp_X0_write = true := by decide +kernel
theorem o_X0_write : ∀ q ∈ xm_X0_write.2, ∃ p, xchk xm_X0_write q p = true := xall_mem k_X0_write
def xp_X0_dropFirstLetting : List (List Nat) := [[], [241], [], [], [241], [], [], [627, 629, 628, 83], [], [243], [], [], [243], [], [], [627, 629, 628, 83], [], [245], [], [], [245], [], [], [627, 629, 628, 83], [], [], [231], []]
set_option maxRecDepth 100000 in
theorem k_X0_dropFirstLetting : xall xm_X0_dropFirstLetting xc_X0_dropFirstLetting xp_X0_dropFirstLetting = true := by decide +kernel
theorem o_X0_dropFirstLetting : ∀ q ∈ xm_X0_dropFirstLetting.2, ∃ p, xchk xm_X0_dropFirstLetting q p = true := xall_mem k_X0_dropFirstLetting
def xp_X0_viewHeldBy : List (List Nat) := [[], [], [], [], [], [], [238], [], [], [], [], [], [], [], [], [], []]
set_option maxRecDepth 100000 in
theorem k_X0_viewHeldBy : xall xm_X0_viewHeldBy xc_X0_viewHeldBy xp_X0_viewHeldBy = true := by decide +kernel
theorem o_X0_viewHeldBy : ∀ q ∈ xm_X0_viewHeldBy.2, ∃ p, xchk xm_X0_viewHeldBy q p = true := xall_mem k_X0_viewHeldBy
def xp_X0_letNow : List (List Nat) := [[], [], [], [], [], [], [], [], [238], [], [], [], [], [], [], [], [], []]
set_option maxRecDepth 100000 in
theorem k_X0_letNow : xall xm_X0_letNow xc_X0_letNow xp_X0_letNow = true := by decide +kernel
theorem o_X0_letNow : ∀ q ∈ xm_X0_letNow.2, ∃ p, xchk xm_X0_letNow q p = true := xall_mem k_X0_letNow
def xp_X0_rentersWhoHad : List (List Nat) := [[], [], [], [], [], [], [231], [], [], [241], [], [], [], [], [], [], [], [243], [], [], [], [], [], [], [], [], []]
set_option maxRecDepth 100000 in
theorem k_X0_rentersWhoHad : xall xm_X0_rentersWhoHad xc_X0_rentersWhoHad xp_X0_rentersWhoHad = true := by decide +kernel
theorem o_X0_rentersWhoHad : ∀ q ∈ xm_X0_rentersWhoHad.2, ∃ p, xchk xm_X0_rentersWhoHad q p = true := xall_mem k_X0_rentersWhoHad
def xp_X0_firstEveningOf : List (List Nat) := [[], [], [], [], [231], [], [], [241], [], [], [], [], [], [245], [], [], [], [], [], [], []]
set_option maxRecDepth 100000 in
theorem k_X0_firstEveningOf : xall xm_X0_firstEveningOf xc_X0_firstEveningOf xp_X0_firstEveningOf = true := by decide +kernel
theorem o_X0_firstEveningOf : ∀ q ∈ xm_X0_firstEveningOf.2, ∃ p, xchk xm_X0_firstEveningOf q p = true := xall_mem k_X0_firstEveningOf
def xp_X1_init : List (List Nat) := [[], [126, 96, 65, 97], []]
set_option maxRecDepth 100000 in
theorem k_X1_init : xall xm_X1_init xc_X1_init xp_X1_init = true := by decide +kernel
theorem o_X1_init : ∀ q ∈ xm_X1_init.2, ∃ p, xchk xm_X1_init q p = true := xall_mem k_X1_init
def xp_X1_fee : List (List Nat) := [[], [], [599, 595, 127, 593, 65, 614], [], [], []]
set_option maxRecDepth 100000 in
theorem k_X1_fee : xall xm_X1_fee xc_X1_fee xp_X1_fee = true := by decide +kernel
theorem o_X1_fee : ∀ q ∈ xm_X1_fee.2, ∃ p, xchk xm_X1_fee q p = true := xall_mem k_X1_fee
def xp_X1_fits : List (List Nat) := [[], []]
set_option maxRecDepth 100000 in
theorem k_X1_fits : xall xm_X1_fits xc_X1_fits xp_X1_fits = true := by decide +kernel
theorem o_X1_fits : ∀ q ∈ xm_X1_fits.2, ∃ p, xchk xm_X1_fits q p = true := xall_mem k_X1_fits
def xp_X2_init : List (List Nat) := [[], [170, 90, 91], [], [], [164], [175], [], [], [164], [176], [], [], [164], [177], [], [], [], [171, 172, 164], [178], [], [], [164], [179], []]
set_option maxRecDepth 100000 in
theorem k_X2_init : xall xm_X2_init xc_X2_init xp_X2_init = true := by decide +kernel
theorem o_X2_init : ∀ q ∈ xm_X2_init.2, ∃ p, xchk xm_X2_init q p = true := xall_mem k_X2_init
def xp_X2_suitedIn : List (List Nat) := [[], [], [], []]
set_option maxRecDepth 100000 in
theorem k_X2_suitedIn : xall xm_X2_suitedIn xc_X2_suitedIn xp_X2_suitedIn = true := by decide +kernel
theorem o_X2_suitedIn : ∀ q ∈ xm_X2_suitedIn.2, ∃ p, xchk xm_X2_suitedIn q p = true := xall_mem k_X2_suitedIn
def xp_X2_moneyIn : List (List Nat) := [[], [], [], []]
set_option maxRecDepth 100000 in
theorem k_X2_moneyIn : xall xm_X2_moneyIn xc_X2_moneyIn xp_X2_moneyIn = true := by decide +kernel
theorem o_X2_moneyIn : ∀ q ∈ xm_X2_moneyIn.2, ∃ p, xchk xm_X2_moneyIn q p = true := xall_mem k_X2_moneyIn
def xp_X2_open : List (List Nat) := [[], [], [285], [173], [], [], [174], [], [], [], [], [173], [], [], [176], [], [], [], [708, 585, 586, 74, 587], [], [], [177], [], [], [], [], [709, 661, 662, 74, 663], [], [], [], [], [], [], [], [289], [], [], [], [], [307], [], [], [], [319], [235], [], [], [], [310], [], [], [710, 711, 712, 72, 713], [], [], []]
set_option maxRecDepth 100000 in
theorem k_X2_open : xall xm_X2_open xc_X2_open xp_X2_open = true := by decide +kernel
theorem o_X2_open : ∀ q ∈ xm_X2_open.2, ∃ p, xchk xm_X2_open q p = true := xall_mem k_X2_open
def xp_X2_addRenter : List (List Nat) := [[], [174], [], [], [], [], [], [], [], [], [], [173], [], [], [176], [], [], [], [], [], [], [], [], [], [714, 716, 16, 72, 717], [], [], [], [], [], [], [], [], [], [], [175], [], [174], [], [], [], [], [174], [], [], [174], []]
set_option maxRecDepth 100000 in
theorem k_X2_addRenter : xall xm_X2_addRenter xc_X2_addRenter xp_X2_addRenter = true := by decide +kernel
theorem o_X2_addRenter : ∀ q ∈ xm_X2_addRenter.2, ∃ p, xchk xm_X2_addRenter q p = true := xall_mem k_X2_addRenter
def xp_X2_suitsAtAnyPrice : List (List Nat) := [[], [], [], [718, 569, 570, 74, 571], [], [], [], [], [], [], [177], [], [], [], [], [], [], []]
set_option maxRecDepth 100000 in
theorem k_X2_suitsAtAnyPrice : xall xm_X2_suitsAtAnyPrice xc_X2_suitsAtAnyPrice xp_X2_suitsAtAnyPrice = true := by decide +kernel
theorem o_X2_suitsAtAnyPrice : ∀ q ∈ xm_X2_suitsAtAnyPrice.2, ∃ p, xchk xm_X2_suitsAtAnyPrice q p = true := xall_mem k_X2_suitsAtAnyPrice
def xp_X2_isSuited : List (List Nat) := [[], [175], [], [], [], [], [], [], [], [], [], [], [], []]
set_option maxRecDepth 100000 in
theorem k_X2_isSuited : xall xm_X2_isSuited xc_X2_isSuited xp_X2_isSuited = true := by decide +kernel
theorem o_X2_isSuited : ∀ q ∈ xm_X2_isSuited.2, ∃ p, xchk xm_X2_isSuited q p = true := xall_mem k_X2_isSuited
def xp_X2_solve : List (List Nat) := [[], [], [173], [], [], [], [], [], [178], [], [174], [], [], [731, 278, 76, 279], [], [174], [], [], [], [], [], [], [], [], [], [], [], [178], [], [], [], [], [], [], [732, 734, 17, 72, 735], [], [], [], [], [], [], [178], [], [], [], [], []]
set_option maxRecDepth 100000 in
theorem k_X2_solve : xall xm_X2_solve xc_X2_solve xp_X2_solve = true := by decide +kernel
theorem o_X2_solve : ∀ q ∈ xm_X2_solve.2, ∃ p, xchk xm_X2_solve q p = true := xall_mem k_X2_solve
def xp_X2_mostFor : List (List Nat) := [[], [178], [], [], [], [], [], [], [], [], [], [], [175], [], [], [], [], [], [], [], [], [], [173], [], [], [], [], [], [], [], [], [], [], [], [176], [], [], [], [], [], [], [], [], [], [], [], [736, 737, 78, 738], [], [], [], [], []]
set_option maxRecDepth 100000 in
theorem k_X2_mostFor : xall xm_X2_mostFor xc_X2_mostFor xp_X2_mostFor = true := by decide +kernel
theorem o_X2_mostFor : ∀ q ∈ xm_X2_mostFor.2, ∃ p, xchk xm_X2_mostFor q p = true := xall_mem k_X2_mostFor
def xp_X2_viewInBest : List (List Nat) := [[], [], [173], [], [], [], [], [], [], [], [], [], [], [], [], [], [174], [], [], [], [], [746, 748, 18, 72, 749], [], [], [], [], [], [], [], [], [], [], [], [], [], []]
set_option maxRecDepth 100000 in
theorem k_X2_viewInBest : xall xm_X2_viewInBest xc_X2_viewInBest xp_X2_viewInBest = true := by decide +kernel
theorem o_X2_viewInBest : ∀ q ∈ xm_X2_viewInBest.2, ∃ p, xchk xm_X2_viewInBest q p = true := xall_mem k_X2_viewInBest
def xp_X2_firstBest : List (List Nat) := [[], [178], [], [], [], [], [], [], [178], [], [], [], [], [], [], [], [], [], [], [], [], [], [175], [], [], [], [], [], [], [], [], [], [173], [], [], [], [], [], [], [], [], [], [], [176], [], [], [], [], [], [], [], [], [], [], [], [], [], [], [], [], [], [], []]
set_option maxRecDepth 100000 in
theorem k_X2_firstBest : xall xm_X2_firstBest xc_X2_firstBest xp_X2_firstBest = true := by decide +kernel
theorem o_X2_firstBest : ∀ q ∈ xm_X2_firstBest.2, ∃ p, xchk xm_X2_firstBest q p = true := xall_mem k_X2_firstBest
def xp_X2_asTheyCome : List (List Nat) := [[], [], [173], [], [], [], [], [], [], [], [], [], [], [174], [], [], [], [], [], [], [], [], [], [], [175], [], [], [], [], [765, 767, 19, 72, 768], [], [], [], [], [], [], [], [], [], [], [], [], [], [], [], [176], [], [], [], [], [], [], [], [], []]
set_option maxRecDepth 100000 in
theorem k_X2_asTheyCome : xall xm_X2_asTheyCome xc_X2_asTheyCome xp_X2_asTheyCome = true := by decide +kernel
theorem o_X2_asTheyCome : ∀ q ∈ xm_X2_asTheyCome.2, ∃ p, xchk xm_X2_asTheyCome q p = true := xall_mem k_X2_asTheyCome
def xp_X2_dearest : List (List Nat) := [[], [], [], [], [], [], [173], [], [], [], [], [], [], [], [], [], [], [], [], [176], [], [], [], [176], [], [], [], [], [], [], [], [], []]
set_option maxRecDepth 100000 in
theorem k_X2_dearest : xall xm_X2_dearest xc_X2_dearest xp_X2_dearest = true := by decide +kernel
theorem o_X2_dearest : ∀ q ∈ xm_X2_dearest.2, ∃ p, xchk xm_X2_dearest q p = true := xall_mem k_X2_dearest
def xp_X2_priceForMostMoney : List (List Nat) := [[], [], [], [782, 705, 706, 72, 707], [], [], [], [], [174], [], [], [175], [], [], [], [], [], [], [], [], [], [], [], [], [], [783, 728, 729, 72, 730], [], [], [], [], [], [174], [], [], [], [], [], [307], [], [], [], [310], [], [], [714, 716, 16, 72, 717], [], [], [179], [], [], [], [], [], [], [784, 786, 20, 72, 787], [], [], [], [], [], [], [], [], [], [], [], [], [], [], [], [], [], [], [], [], [788, 589, 590, 74, 591], [], [789, 791, 21, 72, 792], [793, 755, 72, 756], [], [], [], [], [], [], [], [], [], [], [], []]
set_option maxRecDepth 100000 in
theorem k_X2_priceForMostMoney : xall xm_X2_priceForMostMoney xc_X2_priceForMostMoney xp_X2_priceForMostMoney = true := by decide +kernel
theorem o_X2_priceForMostMoney : ∀ q ∈ xm_X2_priceForMostMoney.2, ∃ p, xchk xm_X2_priceForMostMoney q p = true := xall_mem k_X2_priceForMostMoney
def xp_X2_solveWithout : List (List Nat) := [[], [175], [], [], [], [], [175], [], [], [], [], [783, 728, 729, 72, 730], [], [], [175], [], [], [], [], []]
set_option maxRecDepth 100000 in
theorem k_X2_solveWithout : xall xm_X2_solveWithout xc_X2_solveWithout xp_X2_solveWithout = true := by decide +kernel
theorem o_X2_solveWithout : ∀ q ∈ xm_X2_solveWithout.2, ∃ p, xchk xm_X2_solveWithout q p = true := xall_mem k_X2_solveWithout
def xp_X2_mostAtFee : List (List Nat) := [[], [], [], [], [], [], [174], [], [], [179], [], [], [], [], [], [], [319], [235], [], [], [], [], [], [179], [], [], [], [], [736, 737, 78, 738], [], [], [], [], []]
set_option maxRecDepth 100000 in
theorem k_X2_mostAtFee : xall xm_X2_mostAtFee xc_X2_mostAtFee xp_X2_mostAtFee = true := by decide +kernel
theorem o_X2_mostAtFee : ∀ q ∈ xm_X2_mostAtFee.2, ∃ p, xchk xm_X2_mostAtFee q p = true := xall_mem k_X2_mostAtFee
def xp_X2_weighedMoney : List (List Nat) := [[], [], [], [], [], [], [], [174], [], [], [], [], [], [], [], [], [174], [], [], [], [], [], [], [], [], [], [], [], [], [], [], [], [], [], [], [], [], [], [], [], [], [], [], [], [], [885, 762, 763, 72, 764], [793, 755, 72, 756], [], [], [], [], [], [], [], []]
set_option maxRecDepth 100000 in
theorem k_X2_weighedMoney : xall xm_X2_weighedMoney xc_X2_weighedMoney xp_X2_weighedMoney = true := by decide +kernel
theorem o_X2_weighedMoney : ∀ q ∈ xm_X2_weighedMoney.2, ∃ p, xchk xm_X2_weighedMoney q p = true := xall_mem k_X2_weighedMoney
def xp_X2_suitedByDraw : List (List Nat) := [[], [], [], [], [], [], [], [], [], [], [], [], [], [319], [228], [], [], [782, 705, 706, 72, 707], [], [], [], [], [], [], [174], [], [], [899], [], [900], [], [901], [], [], [], [902], [], [903], [], [], [], [], [], [], [], [], [], [], [], [], [], [], [], [], [885, 762, 763, 72, 764], [904, 740, 72, 741], [], [], [], [], [], []]
set_option maxRecDepth 100000 in
theorem k_X2_suitedByDraw : xall xm_X2_suitedByDraw xc_X2_suitedByDraw xp_X2_suitedByDraw = true := by decide +kernel
theorem o_X2_suitedByDraw : ∀ q ∈ xm_X2_suitedByDraw.2, ∃ p, xchk xm_X2_suitedByDraw q p = true := xall_mem k_X2_suitedByDraw
def xp_X3_init : List (List Nat) := [[], [112, 96, 65, 97], []]
set_option maxRecDepth 100000 in
theorem k_X3_init : xall xm_X3_init xc_X3_init xp_X3_init = true := by decide +kernel
theorem o_X3_init : ∀ q ∈ xm_X3_init.2, ∃ p, xchk xm_X3_init q p = true := xall_mem k_X3_init
def xp_X3_showing : List (List Nat) := [[], [], [], [672, 667, 113, 665, 65, 686], [], [], [], [], [], [], [], []]
set_option maxRecDepth 100000 in
theorem k_X3_showing : xall xm_X3_showing xc_X3_showing xp_X3_showing = true := by decide +kernel
theorem o_X3_showing : ∀ q ∈ xm_X3_showing.2, ∃ p, xchk xm_X3_showing q p = true := xall_mem k_X3_showing
def xp_X3_fee : List (List Nat) := [[], [], [], [603, 595, 113, 593, 65, 614], [], []]
set_option maxRecDepth 100000 in
theorem k_X3_fee : xall xm_X3_fee xc_X3_fee xp_X3_fee = true := by decide +kernel
theorem o_X3_fee : ∀ q ∈ xm_X3_fee.2, ∃ p, xchk xm_X3_fee q p = true := xall_mem k_X3_fee

set_option maxRecDepth 40000 in
theorem iA_X0 : ∀ w ∈ wsX00, w ∈ lwA := lwA_bulk _ lwT_1 _ [193, 195, 197, 199, 201] (by decide +kernel) (by decide +kernel)
set_option maxRecDepth 40000 in
theorem iA_X1 : ∀ w ∈ wsX10, w ∈ lwA := lwA_bulk _ lwT_1 _ [102, 104, 106, 108] (by decide +kernel) (by decide +kernel)
set_option maxRecDepth 40000 in
theorem iA_X2 : ∀ w ∈ wsX20, w ∈ lwA := lwA_bulk _ lwT_2 _ [26, 28, 30] (by decide +kernel) (by decide +kernel)
set_option maxRecDepth 40000 in
theorem iA_X3 : ∀ w ∈ wsX30, w ∈ lwA := lwA_bulk _ lwT_1 _ [131, 133, 135, 137, 139, 141, 143, 145, 147, 149] (by decide +kernel) (by decide +kernel)
set_option maxRecDepth 40000 in
theorem iA_X4 : ∀ w ∈ wsX40, w ∈ lwA := lwA_bulk lw_tbl (fun _ h => h) _ [246, 248, 250, 252, 254, 256, 258, 260, 262, 264, 266, 268, 270] (by decide +kernel) (by decide +kernel)
set_option maxRecDepth 40000 in
theorem iA_X5 : ∀ w ∈ wsX50, w ∈ lwA := lwA_bulk _ lwT_1 _ [165, 167, 169, 171, 173, 175, 177] (by decide +kernel) (by decide +kernel)
set_option maxRecDepth 40000 in
theorem iA_X6 : ∀ w ∈ wsX60, w ∈ lwA := lwA_bulk _ lwT_1 _ [63, 65, 67, 69, 71, 73, 75, 77, 79, 81] (by decide +kernel) (by decide +kernel)
set_option maxRecDepth 40000 in
theorem iA_X7 : ∀ w ∈ wsX70, w ∈ lwA := lwA_bulk _ lwT_2 _ [49, 51, 53, 55, 57, 59, 61, 63] (by decide +kernel) (by decide +kernel)
set_option maxRecDepth 40000 in
theorem iA_X8 : ∀ w ∈ wsX80, w ∈ lwA := lwA_bulk _ lwT_2 _ [71, 73, 75, 77] (by decide +kernel) (by decide +kernel)

set_option maxRecDepth 40000 in
theorem iA_X0 : ∀ w ∈ wsX00, w ∈ lwA := lwA_bulk _ lwT_1 _ [194, 196, 198, 200, 202] (by decide +kernel) (by decide +kernel)
set_option maxRecDepth 40000 in
theorem iA_X1 : ∀ w ∈ wsX10, w ∈ lwA := lwA_bulk _ lwT_1 _ [103, 105, 107, 109] (by decide +kernel) (by decide +kernel)
set_option maxRecDepth 40000 in
theorem iA_X2 : ∀ w ∈ wsX20, w ∈ lwA := lwA_bulk _ lwT_2 _ [27, 29, 31] (by decide +kernel) (by decide +kernel)
set_option maxRecDepth 40000 in
theorem iA_X3 : ∀ w ∈ wsX30, w ∈ lwA := lwA_bulk _ lwT_1 _ [132, 134, 136, 138, 140, 142, 144, 146, 148, 150] (by decide +kernel) (by decide +kernel)
set_option maxRecDepth 40000 in
theorem iA_X4 : ∀ w ∈ wsX40, w ∈ lwA := lwA_bulk lw_tbl (fun _ h => h) _ [296, 298, 300, 302, 304, 306, 308, 310, 312, 314, 316, 318, 320] (by decide +kernel) (by decide +kernel)
set_option maxRecDepth 40000 in
theorem iA_X5 : ∀ w ∈ wsX50, w ∈ lwA := lwA_bulk _ lwT_1 _ [166, 168, 170, 172, 174, 176, 178] (by decide +kernel) (by decide +kernel)
set_option maxRecDepth 40000 in
theorem iA_X6 : ∀ w ∈ wsX60, w ∈ lwA := lwA_bulk _ lwT_1 _ [64, 66, 68, 70, 72, 74, 76, 78, 80, 82] (by decide +kernel) (by decide +kernel)
set_option maxRecDepth 40000 in
theorem iA_X7 : ∀ w ∈ wsX70, w ∈ lwA := lwA_bulk _ lwT_2 _ [54, 56, 58, 60, 62, 64, 66, 68] (by decide +kernel) (by decide +kernel)
set_option maxRecDepth 40000 in
theorem iA_X8 : ∀ w ∈ wsX80, w ∈ lwA := lwA_bulk _ lwT_2 _ [76, 78, 80, 82] (by decide +kernel) (by decide +kernel)
set_option maxRecDepth 40000 in
theorem iA_X9 : ∀ w ∈ wsX90, w ∈ lwA := lwA_bulk _ lwT_5 _ [106, 108, 110, 112, 114, 116, 118, 120, 122, 124, 126, 128, 130] (by decide +kernel) (by decide +kernel)

set_option maxRecDepth 40000 in
theorem exA_1 : ∀ w ∈ (vx_atS RX8 280 "java/lang/IndexOutOfBoundsException" ["java/lang/RuntimeException", "java/lang/Exception"]).filter goodWord, w ∈ lwA := by
  have h2 : ∀ w ∈ (vx_atS RX8 280 "java/lang/IndexOutOfBoundsException" ["java/lang/RuntimeException", "java/lang/Exception"]).filter goodWord, w ∈ lw_tbl := by decide +kernel
  exact fun w hw => lwA_of (h2 w hw) (List.mem_filter.mp hw).2
set_option maxRecDepth 40000 in
theorem exA_2 : ∀ w ∈ (vx_atS RX8 287 "java/lang/IllegalArgumentException" ["java/lang/RuntimeException", "java/lang/Exception"]).filter goodWord, w ∈ lwA := by
  have h2 : ∀ w ∈ (vx_atS RX8 287 "java/lang/IllegalArgumentException" ["java/lang/RuntimeException", "java/lang/Exception"]).filter goodWord, w ∈ lw_tbl := by decide +kernel
  exact fun w hw => lwA_of (h2 w hw) (List.mem_filter.mp hw).2
set_option maxRecDepth 40000 in
theorem exA_3 : ∀ w ∈ (vx_atS RX8 292 "java/lang/IllegalStateException" ["java/lang/RuntimeException", "java/lang/Exception"]).filter goodWord, w ∈ lwA := by
  have h2 : ∀ w ∈ (vx_atS RX8 292 "java/lang/IllegalStateException" ["java/lang/RuntimeException", "java/lang/Exception"]).filter goodWord, w ∈ lw_tbl := by decide +kernel
  exact fun w hw => lwA_of (h2 w hw) (List.mem_filter.mp hw).2

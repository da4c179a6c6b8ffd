theorem vx_w0 : ∀ w ∈ vx_atS "PaneLayers" 137 "java/lang/IndexOutOfBoundsException" ["java/lang/RuntimeException", "java/lang/Exception"], w ∈ lw_tbl := by decide +kernel
theorem vx_w1 : ∀ w ∈ vx_atS "PaneLayers" 157 "java/lang/IllegalArgumentException" ["java/lang/RuntimeException", "java/lang/Exception"], w ∈ lw_tbl := by decide +kernel
theorem vx_w2 : ∀ w ∈ vx_atS "PaneLayers" 350 "java/lang/IllegalStateException" ["java/lang/RuntimeException", "java/lang/Exception"], w ∈ lw_tbl := by decide +kernel
theorem vx_g0 : ∀ w ∈ vx_atS "PaneLayers" 137 "java/lang/IndexOutOfBoundsException" ["java/lang/RuntimeException", "java/lang/Exception"], gok w = true := by decide +kernel
theorem vx_g1 : ∀ w ∈ vx_atS "PaneLayers" 157 "java/lang/IllegalArgumentException" ["java/lang/RuntimeException", "java/lang/Exception"], gok w = true := by decide +kernel
theorem vx_g2 : ∀ w ∈ vx_atS "PaneLayers" 350 "java/lang/IllegalStateException" ["java/lang/RuntimeException", "java/lang/Exception"], gok w = true := by decide +kernel

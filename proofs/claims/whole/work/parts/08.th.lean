set_option maxRecDepth 100000 in
theorem sr_th2 : ∀ w ∈ Bundle.ownAtoms "StationRows" 197 "java/lang/IndexOutOfBoundsException" ["java/lang/RuntimeException", "java/lang/Exception"], w ∈ sr_ws ∨ w ∈ sr_dw ∨ w = sr_r1 ∨ w = sr_r2 ∨ w = sr_r3 ∨ w = sr_r4 := by decide +kernel
theorem sr_c2 : Cond.castable "java/lang/IndexOutOfBoundsException" "java/lang/IndexOutOfBoundsException" ∈ sr_dw := by decide +kernel
set_option maxRecDepth 100000 in
theorem sr_th4 : ∀ w ∈ Bundle.ownAtoms "StationRows" 212 "java/lang/UnsupportedOperationException" ["java/lang/RuntimeException", "java/lang/Exception"], w ∈ sr_ws ∨ w ∈ sr_dw ∨ w = sr_r1 ∨ w = sr_r2 ∨ w = sr_r3 ∨ w = sr_r4 := by decide +kernel
theorem sr_c4 : Cond.castable "java/lang/UnsupportedOperationException" "java/lang/UnsupportedOperationException" ∈ sr_dw := by decide +kernel
set_option maxRecDepth 100000 in
theorem sr_th1 : ∀ w ∈ Bundle.ownAtoms "StationRows" 190 "java/lang/IllegalArgumentException" ["java/lang/RuntimeException", "java/lang/Exception"], w ∈ sr_ws ∨ w ∈ sr_dw ∨ w = sr_r1 ∨ w = sr_r2 ∨ w = sr_r3 ∨ w = sr_r4 := by decide +kernel
theorem sr_c1 : Cond.castable "java/lang/IllegalArgumentException" "java/lang/IllegalArgumentException" ∈ sr_dw := by decide +kernel
set_option maxRecDepth 100000 in
theorem sr_th3 : ∀ w ∈ Bundle.ownAtoms "StationRows" 207 "java/lang/IllegalStateException" ["java/lang/RuntimeException", "java/lang/Exception"], w ∈ sr_ws ∨ w ∈ sr_dw ∨ w = sr_r1 ∨ w = sr_r2 ∨ w = sr_r3 ∨ w = sr_r4 := by decide +kernel
theorem sr_c3 : Cond.castable "java/lang/IllegalStateException" "java/lang/IllegalStateException" ∈ sr_dw := by decide +kernel
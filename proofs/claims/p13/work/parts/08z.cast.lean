theorem ca_IAE : Cond.castable "java/lang/IllegalArgumentException" "java/lang/IllegalArgumentException" ∈ z_NW := z_inN (z_mem 215 (by decide +kernel)) rfl
theorem ca_ISE : Cond.castable "java/lang/IllegalStateException" "java/lang/IllegalStateException" ∈ z_NW := z_inN (z_mem 282 (by decide +kernel)) rfl

/-! PRINTED by gen.py: the kernel checks the tables, 17 -/
-- 110: NoisyCodesLaw.law([I)Z, stretch 13
theorem xk_n110_13 : xi_numr xm_110 xt_110 894 63 = true := by decide +kernel
def xk_p110_13 : List Nat := [574, 575, 24, 576, 754, 755, 33, 757, 756, 641, 642, 33, 644, 643, 582, 583, 24, 584]
def xk_q110_13 : List Nat := []
theorem xk_w110_13 : xi_lk xk_p110_13 = xi_needr xm_110 xt_110 894 63 := by decide +kernel
theorem xk_v110_13 : xi_lkn xk_q110_13 = xi_needrN xm_110 xt_110 894 63 := by decide +kernel
theorem xk_s110_13 : xi_segOk xm_110 xt_110 894 63 := xi_segOk_of xk_n110_13 xk_w110_13 (by decide +kernel) (by decide +kernel) xk_v110_13 (by decide +kernel)

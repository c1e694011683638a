/-! PRINTED by gen.py: the kernel checks the tables, 9 -/
-- 110: NoisyCodesLaw.law([I)Z, stretch 5
theorem xk_n110_5 : xi_numr xm_110 xt_110 396 59 = true := by decide +kernel
def xk_p110_5 : List Nat := [389, 390, 24, 391, 686, 687, 33, 689, 688, 641, 642, 33, 644, 643]
def xk_q110_5 : List Nat := []
theorem xk_w110_5 : xi_lk xk_p110_5 = xi_needr xm_110 xt_110 396 59 := by decide +kernel
theorem xk_v110_5 : xi_lkn xk_q110_5 = xi_needrN xm_110 xt_110 396 59 := by decide +kernel
theorem xk_s110_5 : xi_segOk xm_110 xt_110 396 59 := xi_segOk_of xk_n110_5 xk_w110_5 (by decide +kernel) (by decide +kernel) xk_v110_5 (by decide +kernel)

/-! PRINTED by gen.py: the kernel checks the tables, 16 -/
-- 110: NoisyCodesLaw.law([I)Z, stretch 12
theorem xk_n110_12 : xi_numr xm_110 xt_110 830 64 = true := by decide +kernel
def xk_p110_12 : List Nat := [487, 488, 24, 489, 738, 739, 33, 741, 740, 641, 642, 33, 644, 643]
def xk_q110_12 : List Nat := []
theorem xk_w110_12 : xi_lk xk_p110_12 = xi_needr xm_110 xt_110 830 64 := by decide +kernel
theorem xk_v110_12 : xi_lkn xk_q110_12 = xi_needrN xm_110 xt_110 830 64 := by decide +kernel
theorem xk_s110_12 : xi_segOk xm_110 xt_110 830 64 := xi_segOk_of xk_n110_12 xk_w110_12 (by decide +kernel) (by decide +kernel) xk_v110_12 (by decide +kernel)

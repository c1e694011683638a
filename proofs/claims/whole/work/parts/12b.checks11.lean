/-! PRINTED by gen.py: the kernel checks the tables, 11 -/
-- 110: NoisyCodesLaw.law([I)Z, stretch 7
theorem xk_n110_7 : xi_numr xm_110 xt_110 516 66 = true := by decide +kernel
def xk_p110_7 : List Nat := [423, 424, 24, 425, 698, 699, 33, 701, 700, 641, 642, 33, 644, 643, 430, 431, 24, 432, 702, 703, 33, 705, 704]
def xk_q110_7 : List Nat := []
theorem xk_w110_7 : xi_lk xk_p110_7 = xi_needr xm_110 xt_110 516 66 := by decide +kernel
theorem xk_v110_7 : xi_lkn xk_q110_7 = xi_needrN xm_110 xt_110 516 66 := by decide +kernel
theorem xk_s110_7 : xi_segOk xm_110 xt_110 516 66 := xi_segOk_of xk_n110_7 xk_w110_7 (by decide +kernel) (by decide +kernel) xk_v110_7 (by decide +kernel)

/-! PRINTED by gen.py: the kernel checks the tables, 5 -/
-- 110: NoisyCodesLaw.law([I)Z, stretch 1
theorem xk_n110_1 : xi_numr xm_110 xt_110 134 62 = true := by decide +kernel
def xk_p110_1 : List Nat := [194, 195, 24, 196, 645, 646, 33, 648, 647, 641, 642, 33, 644, 643]
def xk_q110_1 : List Nat := []
theorem xk_w110_1 : xi_lk xk_p110_1 = xi_needr xm_110 xt_110 134 62 := by decide +kernel
theorem xk_v110_1 : xi_lkn xk_q110_1 = xi_needrN xm_110 xt_110 134 62 := by decide +kernel
theorem xk_s110_1 : xi_segOk xm_110 xt_110 134 62 := xi_segOk_of xk_n110_1 xk_w110_1 (by decide +kernel) (by decide +kernel) xk_v110_1 (by decide +kernel)

/-! PRINTED by gen.py: the kernel checks the tables, 8 -/
-- 110: NoisyCodesLaw.law([I)Z, stretch 4
theorem xk_n110_4 : xi_numr xm_110 xt_110 331 65 = true := by decide +kernel
def xk_p110_4 : List Nat := [378, 379, 24, 380, 682, 683, 33, 685, 684, 641, 642, 33, 644, 643]
def xk_q110_4 : List Nat := []
theorem xk_w110_4 : xi_lk xk_p110_4 = xi_needr xm_110 xt_110 331 65 := by decide +kernel
theorem xk_v110_4 : xi_lkn xk_q110_4 = xi_needrN xm_110 xt_110 331 65 := by decide +kernel
theorem xk_s110_4 : xi_segOk xm_110 xt_110 331 65 := xi_segOk_of xk_n110_4 xk_w110_4 (by decide +kernel) (by decide +kernel) xk_v110_4 (by decide +kernel)

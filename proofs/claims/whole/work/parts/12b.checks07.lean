/-! PRINTED by gen.py: the kernel checks the tables, 7 -/
-- 110: NoisyCodesLaw.law([I)Z, stretch 3
theorem xk_n110_3 : xi_numr xm_110 xt_110 269 62 = true := by decide +kernel
def xk_p110_3 : List Nat := [370, 371, 24, 372, 678, 679, 33, 681, 680, 641, 642, 33, 644, 643]
def xk_q110_3 : List Nat := []
theorem xk_w110_3 : xi_lk xk_p110_3 = xi_needr xm_110 xt_110 269 62 := by decide +kernel
theorem xk_v110_3 : xi_lkn xk_q110_3 = xi_needrN xm_110 xt_110 269 62 := by decide +kernel
theorem xk_s110_3 : xi_segOk xm_110 xt_110 269 62 := xi_segOk_of xk_n110_3 xk_w110_3 (by decide +kernel) (by decide +kernel) xk_v110_3 (by decide +kernel)

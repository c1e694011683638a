/-! PRINTED by gen.py: the kernel checks the tables, 10 -/
-- 110: NoisyCodesLaw.law([I)Z, stretch 6
theorem xk_n110_6 : xi_numr xm_110 xt_110 455 61 = true := by decide +kernel
def xk_p110_6 : List Nat := [397, 398, 24, 399, 690, 691, 33, 693, 692, 641, 642, 33, 644, 643]
def xk_q110_6 : List Nat := []
theorem xk_w110_6 : xi_lk xk_p110_6 = xi_needr xm_110 xt_110 455 61 := by decide +kernel
theorem xk_v110_6 : xi_lkn xk_q110_6 = xi_needrN xm_110 xt_110 455 61 := by decide +kernel
theorem xk_s110_6 : xi_segOk xm_110 xt_110 455 61 := xi_segOk_of xk_n110_6 xk_w110_6 (by decide +kernel) (by decide +kernel) xk_v110_6 (by decide +kernel)

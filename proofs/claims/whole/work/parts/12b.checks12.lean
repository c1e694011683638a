/-! PRINTED by gen.py: the kernel checks the tables, 12 -/
-- 110: NoisyCodesLaw.law([I)Z, stretch 8
theorem xk_n110_8 : xi_numr xm_110 xt_110 582 66 = true := by decide +kernel
def xk_p110_8 : List Nat := [641, 642, 33, 644, 643, 446, 447, 24, 448, 713, 714, 33, 716, 715, 641, 642, 33, 644, 643]
def xk_q110_8 : List Nat := []
theorem xk_w110_8 : xi_lk xk_p110_8 = xi_needr xm_110 xt_110 582 66 := by decide +kernel
theorem xk_v110_8 : xi_lkn xk_q110_8 = xi_needrN xm_110 xt_110 582 66 := by decide +kernel
theorem xk_s110_8 : xi_segOk xm_110 xt_110 582 66 := xi_segOk_of xk_n110_8 xk_w110_8 (by decide +kernel) (by decide +kernel) xk_v110_8 (by decide +kernel)

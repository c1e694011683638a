/-! PRINTED by gen.py: the kernel checks the tables, 6 -/
-- 110: NoisyCodesLaw.law([I)Z, stretch 2
theorem xk_n110_2 : xi_numr xm_110 xt_110 196 73 = true := by decide +kernel
def xk_p110_2 : List Nat := [336, 337, 24, 338, 670, 671, 33, 673, 672, 641, 642, 33, 644, 643, 363, 364, 24, 365, 674, 675, 33, 677, 676, 641, 642, 33, 644, 643]
def xk_q110_2 : List Nat := []
theorem xk_w110_2 : xi_lk xk_p110_2 = xi_needr xm_110 xt_110 196 73 := by decide +kernel
theorem xk_v110_2 : xi_lkn xk_q110_2 = xi_needrN xm_110 xt_110 196 73 := by decide +kernel
theorem xk_s110_2 : xi_segOk xm_110 xt_110 196 73 := xi_segOk_of xk_n110_2 xk_w110_2 (by decide +kernel) (by decide +kernel) xk_v110_2 (by decide +kernel)

/-! PRINTED by gen.py: the kernel checks the tables, 15 -/
-- 110: NoisyCodesLaw.law([I)Z, stretch 11
theorem xk_n110_11 : xi_numr xm_110 xt_110 770 60 = true := by decide +kernel
def xk_p110_11 : List Nat := [476, 477, 24, 478, 734, 735, 33, 737, 736, 641, 642, 33, 644, 643]
def xk_q110_11 : List Nat := []
theorem xk_w110_11 : xi_lk xk_p110_11 = xi_needr xm_110 xt_110 770 60 := by decide +kernel
theorem xk_v110_11 : xi_lkn xk_q110_11 = xi_needrN xm_110 xt_110 770 60 := by decide +kernel
theorem xk_s110_11 : xi_segOk xm_110 xt_110 770 60 := xi_segOk_of xk_n110_11 xk_w110_11 (by decide +kernel) (by decide +kernel) xk_v110_11 (by decide +kernel)

/-! PRINTED by gen.py: the kernel checks the tables, 4 -/
-- 110: NoisyCodesLaw.law([I)Z, stretch 0
theorem xk_n110_0 : xi_numr xm_110 xt_110 0 134 = true := by decide +kernel
def xk_p110_0 : List Nat := [44, 46, 47, 25, 48, 589, 591, 592, 33, 593, 762]
def xk_q110_0 : List Nat := []
theorem xk_w110_0 : xi_lk xk_p110_0 = xi_needr xm_110 xt_110 0 134 := by decide +kernel
theorem xk_v110_0 : xi_lkn xk_q110_0 = xi_needrN xm_110 xt_110 0 134 := by decide +kernel
theorem xk_s110_0 : xi_segOk xm_110 xt_110 0 134 := xi_segOk_of xk_n110_0 xk_w110_0 (by decide +kernel) (by decide +kernel) xk_v110_0 (by decide +kernel)

/-! PRINTED by gen.py: the kernel checks the tables, 14 -/
-- 110: NoisyCodesLaw.law([I)Z, stretch 10
theorem xk_n110_10 : xi_numr xm_110 xt_110 708 62 = true := by decide +kernel
def xk_p110_10 : List Nat := [468, 469, 24, 470, 729, 730, 33, 732, 731, 641, 642, 33, 644, 643]
def xk_q110_10 : List Nat := []
theorem xk_w110_10 : xi_lk xk_p110_10 = xi_needr xm_110 xt_110 708 62 := by decide +kernel
theorem xk_v110_10 : xi_lkn xk_q110_10 = xi_needrN xm_110 xt_110 708 62 := by decide +kernel
theorem xk_s110_10 : xi_segOk xm_110 xt_110 708 62 := xi_segOk_of xk_n110_10 xk_w110_10 (by decide +kernel) (by decide +kernel) xk_v110_10 (by decide +kernel)

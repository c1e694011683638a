/-! PRINTED by gen.py: the kernel checks the tables, 13 -/
-- 110: NoisyCodesLaw.law([I)Z, stretch 9
theorem xk_n110_9 : xi_numr xm_110 xt_110 648 60 = true := by decide +kernel
def xk_p110_9 : List Nat := [457, 458, 24, 459, 721, 722, 33, 724, 723, 641, 642, 33, 644, 643]
def xk_q110_9 : List Nat := []
theorem xk_w110_9 : xi_lk xk_p110_9 = xi_needr xm_110 xt_110 648 60 := by decide +kernel
theorem xk_v110_9 : xi_lkn xk_q110_9 = xi_needrN xm_110 xt_110 648 60 := by decide +kernel
theorem xk_s110_9 : xi_segOk xm_110 xt_110 648 60 := xi_segOk_of xk_n110_9 xk_w110_9 (by decide +kernel) (by decide +kernel) xk_v110_9 (by decide +kernel)

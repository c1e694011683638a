/-! PRINTED by gen.py: the kernel checks the tables, 18 -/
-- 110: NoisyCodesLaw.law([I)Z, stretch 14
theorem xk_n110_14 : xi_numr xm_110 xt_110 957 51 = true := by decide +kernel
def xk_p110_14 : List Nat := [758, 759, 33, 761, 760, 641, 642, 33, 644, 643]
def xk_q110_14 : List Nat := []
theorem xk_w110_14 : xi_lk xk_p110_14 = xi_needr xm_110 xt_110 957 51 := by decide +kernel
theorem xk_v110_14 : xi_lkn xk_q110_14 = xi_needrN xm_110 xt_110 957 51 := by decide +kernel
theorem xk_s110_14 : xi_segOk xm_110 xt_110 957 51 := xi_segOk_of xk_n110_14 xk_w110_14 (by decide +kernel) (by decide +kernel) xk_v110_14 (by decide +kernel)
def xk_g110 : List (Nat × Nat) := [(0, 134), (134, 62), (196, 73), (269, 62), (331, 65), (396, 59), (455, 61), (516, 66), (582, 66), (648, 60), (708, 62), (770, 60), (830, 64), (894, 63), (957, 51)]
theorem xk_110 : xi_okM xm_110 xt_110 := ⟨xi_rows_seg (segs := xk_g110) (len := 1008) (by decide +kernel) (by decide +kernel) ⟨xk_s110_0, xk_s110_1, xk_s110_2, xk_s110_3, xk_s110_4, xk_s110_5, xk_s110_6, xk_s110_7, xk_s110_8, xk_s110_9, xk_s110_10, xk_s110_11, xk_s110_12, xk_s110_13, xk_s110_14, trivial⟩, rfl, Or.inr (Or.inr ⟨rfl, rfl⟩)⟩

/-! PRINTED by gen.py: the kernel checks the tables, 19 -/
-- 91: NoisyCodesModel.take()V
theorem xk_n91 : xi_numm xm_91 xt_91 = true := by decide +kernel
def xk_p91 : List Nat := [601, 605, 607, 604, 607, 603]
def xk_q91 : List Nat := []
theorem xk_w91 : xi_lk xk_p91 = xi_needm xm_91 xt_91 := by decide +kernel
theorem xk_v91 : xi_lkn xk_q91 = xi_needmN xm_91 xt_91 := by decide +kernel
theorem xk_91 : xi_okM xm_91 xt_91 := xi_okM_of xk_n91 xk_w91 (by decide +kernel) (by decide +kernel) xk_v91 (by decide +kernel)
-- 92: NoisyCodesModel.save(I)V
theorem xk_n92 : xi_numm xm_92 xt_92 = true := by decide +kernel
def xk_p92 : List Nat := [596, 649, 650, 33, 651, 595, 601, 595, 606, 605]
def xk_q92 : List Nat := []
theorem xk_w92 : xi_lk xk_p92 = xi_needm xm_92 xt_92 := by decide +kernel
theorem xk_v92 : xi_lkn xk_q92 = xi_needmN xm_92 xt_92 := by decide +kernel
theorem xk_92 : xi_okM xm_92 xt_92 := xi_okM_of xk_n92 xk_w92 (by decide +kernel) (by decide +kernel) xk_v92 (by decide +kernel)
-- 93: NoisyCodesModel.load(I)I
theorem xk_n93 : xi_numm xm_93 xt_93 = true := by decide +kernel
def xk_p93 : List Nat := [596, 649, 650, 33, 651, 595, 595, 742, 744, 33, 745, 21, 595, 595, 595, 750, 752, 33, 753, 23, 601, 606, 605]
def xk_q93 : List Nat := []
theorem xk_w93 : xi_lk xk_p93 = xi_needm xm_93 xt_93 := by decide +kernel
theorem xk_v93 : xi_lkn xk_q93 = xi_needmN xm_93 xt_93 := by decide +kernel
theorem xk_93 : xi_okM xm_93 xt_93 := xi_okM_of xk_n93 xk_w93 (by decide +kernel) (by decide +kernel) xk_v93 (by decide +kernel)
-- 94: NoisyCodesLaw.begin(LNoisyCodes;III[J)I
theorem xk_n94 : xi_numm xm_94 xt_94 = true := by decide +kernel
def xk_p94 : List Nat := [199, 200, 25, 202, 201, 197, 198]
def xk_q94 : List Nat := [21, 22]
theorem xk_w94 : xi_lk xk_p94 = xi_needm xm_94 xt_94 := by decide +kernel
theorem xk_v94 : xi_lkn xk_q94 = xi_needmN xm_94 xt_94 := by decide +kernel
theorem xk_94 : xi_okM xm_94 xt_94 := xi_okM_of xk_n94 xk_w94 (by decide +kernel) (by decide +kernel) xk_v94 (by decide +kernel)
-- 95: NoisyCodesLaw.length(LNoisyCodes;[J)I
theorem xk_n95 : xi_numm xm_95 xt_95 = true := by decide +kernel
def xk_p95 : List Nat := [340, 341, 25, 343, 342, 339]
def xk_q95 : List Nat := [23]
theorem xk_w95 : xi_lk xk_p95 = xi_needm xm_95 xt_95 := by decide +kernel
theorem xk_v95 : xi_lkn xk_q95 = xi_needmN xm_95 xt_95 := by decide +kernel
theorem xk_95 : xi_okM xm_95 xt_95 := xi_okM_of xk_n95 xk_w95 (by decide +kernel) (by decide +kernel) xk_v95 (by decide +kernel)
-- 96: NoisyCodesLaw.generator(LNoisyCodes;[J)I
theorem xk_n96 : xi_numm xm_96 xt_96 = true := by decide +kernel
def xk_p96 : List Nat := [366, 367, 25, 369, 368, 339]
def xk_q96 : List Nat := [23]
theorem xk_w96 : xi_lk xk_p96 = xi_needm xm_96 xt_96 := by decide +kernel
theorem xk_v96 : xi_lkn xk_q96 = xi_needmN xm_96 xt_96 := by decide +kernel
theorem xk_96 : xi_okM xm_96 xt_96 := xi_okM_of xk_n96 xk_w96 (by decide +kernel) (by decide +kernel) xk_v96 (by decide +kernel)
-- 97: NoisyCodesLaw.power(LNoisyCodes;I[J)I
theorem xk_n97 : xi_numm xm_97 xt_97 = true := by decide +kernel
def xk_p97 : List Nat := [373, 374, 25, 376, 375, 339, 197]
def xk_q97 : List Nat := [23, 21]
theorem xk_w97 : xi_lk xk_p97 = xi_needm xm_97 xt_97 := by decide +kernel
theorem xk_v97 : xi_lkn xk_q97 = xi_needmN xm_97 xt_97 := by decide +kernel
theorem xk_97 : xi_okM xm_97 xt_97 := xi_okM_of xk_n97 xk_w97 (by decide +kernel) (by decide +kernel) xk_v97 (by decide +kernel)
-- 98: NoisyCodesLaw.log(LNoisyCodes;I[J)I
theorem xk_n98 : xi_numm xm_98 xt_98 = true := by decide +kernel
def xk_p98 : List Nat := [381, 382, 25, 384, 383, 339, 197]
def xk_q98 : List Nat := [23, 21]
theorem xk_w98 : xi_lk xk_p98 = xi_needm xm_98 xt_98 := by decide +kernel
theorem xk_v98 : xi_lkn xk_q98 = xi_needmN xm_98 xt_98 := by decide +kernel
theorem xk_98 : xi_okM xm_98 xt_98 := xi_okM_of xk_n98 xk_w98 (by decide +kernel) (by decide +kernel) xk_v98 (by decide +kernel)
-- 99: NoisyCodesLaw.times(LNoisyCodes;II[J)I
theorem xk_n99 : xi_numm xm_99 xt_99 = true := by decide +kernel
def xk_p99 : List Nat := [392, 393, 25, 395, 394, 339, 197]
def xk_q99 : List Nat := [23, 21]
theorem xk_w99 : xi_lk xk_p99 = xi_needm xm_99 xt_99 := by decide +kernel
theorem xk_v99 : xi_lkn xk_q99 = xi_needmN xm_99 xt_99 := by decide +kernel
theorem xk_99 : xi_okM xm_99 xt_99 := xi_okM_of xk_n99 xk_w99 (by decide +kernel) (by decide +kernel) xk_v99 (by decide +kernel)
-- 100: NoisyCodesLaw.put(LNoisyCodes;II)I
theorem xk_n100 : xi_numm xm_100 xt_100 = true := by decide +kernel
def xk_p100 : List Nat := [401, 402, 25, 404, 403, 339, 400, 197]
def xk_q100 : List Nat := [23, 24, 21]
theorem xk_w100 : xi_lk xk_p100 = xi_needm xm_100 xt_100 := by decide +kernel
theorem xk_v100 : xi_lkn xk_q100 = xi_needmN xm_100 xt_100 := by decide +kernel
theorem xk_100 : xi_okM xm_100 xt_100 := xi_okM_of xk_n100 xk_w100 (by decide +kernel) (by decide +kernel) xk_v100 (by decide +kernel)
-- 101: NoisyCodesLaw.get(LNoisyCodes;I[J)I
theorem xk_n101 : xi_numm xm_101 xt_101 = true := by decide +kernel
def xk_p101 : List Nat := [426, 427, 25, 429, 428, 339, 400]
def xk_q101 : List Nat := [23, 24]
theorem xk_w101 : xi_lk xk_p101 = xi_needm xm_101 xt_101 := by decide +kernel
theorem xk_v101 : xi_lkn xk_q101 = xi_needmN xm_101 xt_101 := by decide +kernel
theorem xk_101 : xi_okM xm_101 xt_101 := xi_okM_of xk_n101 xk_w101 (by decide +kernel) (by decide +kernel) xk_v101 (by decide +kernel)
-- 102: NoisyCodesLaw.encode(LNoisyCodes;[J)I
theorem xk_n102 : xi_numm xm_102 xt_102 = true := by decide +kernel
def xk_p102 : List Nat := [433, 434, 25, 436, 435, 339]
def xk_q102 : List Nat := [23]
theorem xk_w102 : xi_lk xk_p102 = xi_needm xm_102 xt_102 := by decide +kernel
theorem xk_v102 : xi_lkn xk_q102 = xi_needmN xm_102 xt_102 := by decide +kernel
theorem xk_102 : xi_okM xm_102 xt_102 := xi_okM_of xk_n102 xk_w102 (by decide +kernel) (by decide +kernel) xk_v102 (by decide +kernel)
-- 103: NoisyCodesLaw.bit(LNoisyCodes;I[J)I
theorem xk_n103 : xi_numm xm_103 xt_103 = true := by decide +kernel
def xk_p103 : List Nat := [449, 450, 25, 452, 451, 339, 400]
def xk_q103 : List Nat := [23, 24]
theorem xk_w103 : xi_lk xk_p103 = xi_needm xm_103 xt_103 := by decide +kernel
theorem xk_v103 : xi_lkn xk_q103 = xi_needmN xm_103 xt_103 := by decide +kernel
theorem xk_103 : xi_okM xm_103 xt_103 := xi_okM_of xk_n103 xk_w103 (by decide +kernel) (by decide +kernel) xk_v103 (by decide +kernel)
-- 104: NoisyCodesLaw.burst(LNoisyCodes;II)I
theorem xk_n104 : xi_numm xm_104 xt_104 = true := by decide +kernel
def xk_p104 : List Nat := [460, 461, 25, 463, 462, 339, 400, 197]
def xk_q104 : List Nat := [23, 24, 21]
theorem xk_w104 : xi_lk xk_p104 = xi_needm xm_104 xt_104 := by decide +kernel
theorem xk_v104 : xi_lkn xk_q104 = xi_needmN xm_104 xt_104 := by decide +kernel
theorem xk_104 : xi_okM xm_104 xt_104 := xi_okM_of xk_n104 xk_w104 (by decide +kernel) (by decide +kernel) xk_v104 (by decide +kernel)
-- 105: NoisyCodesLaw.noise(LNoisyCodes;II[J)I
theorem xk_n105 : xi_numm xm_105 xt_105 = true := by decide +kernel
def xk_p105 : List Nat := [471, 472, 25, 474, 473, 339, 197]
def xk_q105 : List Nat := [23, 21]
theorem xk_w105 : xi_lk xk_p105 = xi_needm xm_105 xt_105 := by decide +kernel
theorem xk_v105 : xi_lkn xk_q105 = xi_needmN xm_105 xt_105 := by decide +kernel
theorem xk_105 : xi_okM xm_105 xt_105 := xi_okM_of xk_n105 xk_w105 (by decide +kernel) (by decide +kernel) xk_v105 (by decide +kernel)
-- 106: NoisyCodesLaw.syndrome(LNoisyCodes;II[J)I
theorem xk_n106 : xi_numm xm_106 xt_106 = true := by decide +kernel
def xk_p106 : List Nat := [479, 480, 25, 482, 481, 339, 400]
def xk_q106 : List Nat := [23, 24]
theorem xk_w106 : xi_lk xk_p106 = xi_needm xm_106 xt_106 := by decide +kernel
theorem xk_v106 : xi_lkn xk_q106 = xi_needmN xm_106 xt_106 := by decide +kernel
theorem xk_106 : xi_okM xm_106 xt_106 := xi_okM_of xk_n106 xk_w106 (by decide +kernel) (by decide +kernel) xk_v106 (by decide +kernel)
-- 107: NoisyCodesLaw.decode(LNoisyCodes;I[J)I
theorem xk_n107 : xi_numm xm_107 xt_107 = true := by decide +kernel
def xk_p107 : List Nat := [490, 491, 25, 493, 492, 339, 197, 198]
def xk_q107 : List Nat := [23, 21, 22]
theorem xk_w107 : xi_lk xk_p107 = xi_needm xm_107 xt_107 := by decide +kernel
theorem xk_v107 : xi_lkn xk_q107 = xi_needmN xm_107 xt_107 := by decide +kernel
theorem xk_107 : xi_okM xm_107 xt_107 := xi_okM_of xk_n107 xk_w107 (by decide +kernel) (by decide +kernel) xk_v107 (by decide +kernel)
-- 108: NoisyCodesLaw.save(LNoisyCodes;I)I
theorem xk_n108 : xi_numm xm_108 xt_108 = true := by decide +kernel
def xk_p108 : List Nat := [577, 578, 25, 580, 579, 339, 400]
def xk_q108 : List Nat := [23, 24]
theorem xk_w108 : xi_lk xk_p108 = xi_needm xm_108 xt_108 := by decide +kernel
theorem xk_v108 : xi_lkn xk_q108 = xi_needmN xm_108 xt_108 := by decide +kernel
theorem xk_108 : xi_okM xm_108 xt_108 := xi_okM_of xk_n108 xk_w108 (by decide +kernel) (by decide +kernel) xk_v108 (by decide +kernel)
-- 109: NoisyCodesLaw.load(LNoisyCodes;I[J)I
theorem xk_n109 : xi_numm xm_109 xt_109 = true := by decide +kernel
def xk_p109 : List Nat := [585, 586, 25, 588, 587, 339, 400, 198]
def xk_q109 : List Nat := [23, 24, 22]
theorem xk_w109 : xi_lk xk_p109 = xi_needm xm_109 xt_109 := by decide +kernel
theorem xk_v109 : xi_lkn xk_q109 = xi_needmN xm_109 xt_109 := by decide +kernel
theorem xk_109 : xi_okM xm_109 xt_109 := xi_okM_of xk_n109 xk_w109 (by decide +kernel) (by decide +kernel) xk_v109 (by decide +kernel)

/-! PRINTED by gen.py: the kernel checks the tables, 3 -/
-- 73: NoisyCodesModel.power(I)I
theorem xk_n73 : xi_numm xm_73 xt_73 = true := by decide +kernel
def xk_p73 : List Nat := [596, 595, 595, 666, 668, 33, 669, 16]
def xk_q73 : List Nat := []
theorem xk_w73 : xi_lk xk_p73 = xi_needm xm_73 xt_73 := by decide +kernel
theorem xk_v73 : xi_lkn xk_q73 = xi_needmN xm_73 xt_73 := by decide +kernel
theorem xk_73 : xi_okM xm_73 xt_73 := xi_okM_of xk_n73 xk_w73 (by decide +kernel) (by decide +kernel) xk_v73 (by decide +kernel)
-- 74: NoisyCodesModel.log(I)I
theorem xk_n74 : xi_numm xm_74 xt_74 = true := by decide +kernel
def xk_p74 : List Nat := [596, 599, 649, 650, 33, 651, 595, 595, 666, 668, 33, 669, 16]
def xk_q74 : List Nat := []
theorem xk_w74 : xi_lk xk_p74 = xi_needm xm_74 xt_74 := by decide +kernel
theorem xk_v74 : xi_lkn xk_q74 = xi_needmN xm_74 xt_74 := by decide +kernel
theorem xk_74 : xi_okM xm_74 xt_74 := xi_okM_of xk_n74 xk_w74 (by decide +kernel) (by decide +kernel) xk_v74 (by decide +kernel)
-- 75: NoisyCodesModel.times(II)I
theorem xk_n75 : xi_numm xm_75 xt_75 = true := by decide +kernel
def xk_p75 : List Nat := [596, 599, 649, 650, 33, 651, 599, 649, 650, 33, 651, 595, 595, 597, 598, 655, 656, 33, 657]
def xk_q75 : List Nat := []
theorem xk_w75 : xi_lk xk_p75 = xi_needm xm_75 xt_75 := by decide +kernel
theorem xk_v75 : xi_lkn xk_q75 = xi_needmN xm_75 xt_75 := by decide +kernel
theorem xk_75 : xi_okM xm_75 xt_75 := xi_okM_of xk_n75 xk_w75 (by decide +kernel) (by decide +kernel) xk_v75 (by decide +kernel)
-- 76: NoisyCodesModel.put(II)V
theorem xk_n76 : xi_numm xm_76 xt_76 = true := by decide +kernel
def xk_p76 : List Nat := [596, 694, 696, 33, 697, 17, 649, 650, 33, 651, 649, 650, 33, 651, 595, 595, 599, 603, 599, 603, 604, 604, 604]
def xk_q76 : List Nat := []
theorem xk_w76 : xi_lk xk_p76 = xi_needm xm_76 xt_76 := by decide +kernel
theorem xk_v76 : xi_lkn xk_q76 = xi_needmN xm_76 xt_76 := by decide +kernel
theorem xk_76 : xi_okM xm_76 xt_76 := xi_okM_of xk_n76 xk_w76 (by decide +kernel) (by decide +kernel) xk_v76 (by decide +kernel)
-- 77: NoisyCodesModel.messageBits()I
theorem xk_n77 : xi_numm xm_77 xt_77 = true := by decide +kernel
def xk_p77 : List Nat := [596, 601, 599, 603]
def xk_q77 : List Nat := []
theorem xk_w77 : xi_lk xk_p77 = xi_needm xm_77 xt_77 := by decide +kernel
theorem xk_v77 : xi_lkn xk_q77 = xi_needmN xm_77 xt_77 := by decide +kernel
theorem xk_77 : xi_okM xm_77 xt_77 := xi_okM_of xk_n77 xk_w77 (by decide +kernel) (by decide +kernel) xk_v77 (by decide +kernel)
-- 78: NoisyCodesModel.get(I)I
theorem xk_n78 : xi_numm xm_78 xt_78 = true := by decide +kernel
def xk_p78 : List Nat := [596, 694, 696, 33, 697, 17, 649, 650, 33, 651, 595, 595, 604, 599, 603, 599, 603]
def xk_q78 : List Nat := []
theorem xk_w78 : xi_lk xk_p78 = xi_needm xm_78 xt_78 := by decide +kernel
theorem xk_v78 : xi_lkn xk_q78 = xi_needmN xm_78 xt_78 := by decide +kernel
theorem xk_78 : xi_okM xm_78 xt_78 := xi_okM_of xk_n78 xk_w78 (by decide +kernel) (by decide +kernel) xk_v78 (by decide +kernel)
-- 79: NoisyCodesModel.encode()I
theorem xk_n79 : xi_numm xm_79 xt_79 = true := by decide +kernel
def xk_p79 : List Nat := [596, 595, 601, 596, 604, 603, 605, 706, 708, 33, 709, 18, 605, 710, 711, 33, 712]
def xk_q79 : List Nat := []
theorem xk_w79 : xi_lk xk_p79 = xi_needm xm_79 xt_79 := by decide +kernel
theorem xk_v79 : xi_lkn xk_q79 = xi_needmN xm_79 xt_79 := by decide +kernel
theorem xk_79 : xi_okM xm_79 xt_79 := xi_okM_of xk_n79 xk_w79 (by decide +kernel) (by decide +kernel) xk_v79 (by decide +kernel)
-- 80: NoisyCodesModel.remainder(I)I
theorem xk_n80 : xi_numm xm_80 xt_80 = true := by decide +kernel
def xk_p80 : List Nat := [599, 608]
def xk_q80 : List Nat := []
theorem xk_w80 : xi_lk xk_p80 = xi_needm xm_80 xt_80 := by decide +kernel
theorem xk_v80 : xi_lkn xk_q80 = xi_needmN xm_80 xt_80 := by decide +kernel
theorem xk_80 : xi_okM xm_80 xt_80 := xi_okM_of xk_n80 xk_w80 (by decide +kernel) (by decide +kernel) xk_v80 (by decide +kernel)
-- 81: NoisyCodesModel.ones(I)I
theorem xk_n81 : xi_numm xm_81 xt_81 = true := by decide +kernel
def xk_p81 : List Nat := []
def xk_q81 : List Nat := []
theorem xk_w81 : xi_lk xk_p81 = xi_needm xm_81 xt_81 := by decide +kernel
theorem xk_v81 : xi_lkn xk_q81 = xi_needmN xm_81 xt_81 := by decide +kernel
theorem xk_81 : xi_okM xm_81 xt_81 := xi_okM_of xk_n81 xk_w81 (by decide +kernel) (by decide +kernel) xk_v81 (by decide +kernel)
-- 82: NoisyCodesModel.bit(I)I
theorem xk_n82 : xi_numm xm_82 xt_82 = true := by decide +kernel
def xk_p82 : List Nat := [596, 717, 719, 33, 720, 19, 649, 650, 33, 651, 595, 595, 605, 601, 601]
def xk_q82 : List Nat := []
theorem xk_w82 : xi_lk xk_p82 = xi_needm xm_82 xt_82 := by decide +kernel
theorem xk_v82 : xi_lkn xk_q82 = xi_needmN xm_82 xt_82 := by decide +kernel
theorem xk_82 : xi_okM xm_82 xt_82 := xi_okM_of xk_n82 xk_w82 (by decide +kernel) (by decide +kernel) xk_v82 (by decide +kernel)
-- 83: NoisyCodesModel.channelBits()I
theorem xk_n83 : xi_numm xm_83 xt_83 = true := by decide +kernel
def xk_p83 : List Nat := [596, 601, 599]
def xk_q83 : List Nat := []
theorem xk_w83 : xi_lk xk_p83 = xi_needm xm_83 xt_83 := by decide +kernel
theorem xk_v83 : xi_lkn xk_q83 = xi_needmN xm_83 xt_83 := by decide +kernel
theorem xk_83 : xi_okM xm_83 xt_83 := xi_okM_of xk_n83 xk_w83 (by decide +kernel) (by decide +kernel) xk_v83 (by decide +kernel)
-- 84: NoisyCodesModel.burst(II)V
theorem xk_n84 : xi_numm xm_84 xt_84 = true := by decide +kernel
def xk_p84 : List Nat := [717, 719, 33, 720, 19, 649, 650, 33, 651, 717, 719, 33, 720, 19, 596, 649, 650, 33, 651, 595, 595, 725, 727, 33, 728, 20]
def xk_q84 : List Nat := []
theorem xk_w84 : xi_lk xk_p84 = xi_needm xm_84 xt_84 := by decide +kernel
theorem xk_v84 : xi_lkn xk_q84 = xi_needmN xm_84 xt_84 := by decide +kernel
theorem xk_84 : xi_okM xm_84 xt_84 := xi_okM_of xk_n84 xk_w84 (by decide +kernel) (by decide +kernel) xk_v84 (by decide +kernel)
-- 85: NoisyCodesModel.flip(I)V
theorem xk_n85 : xi_numm xm_85 xt_85 = true := by decide +kernel
def xk_p85 : List Nat := [605, 601, 605, 601, 601]
def xk_q85 : List Nat := []
theorem xk_w85 : xi_lk xk_p85 = xi_needm xm_85 xt_85 := by decide +kernel
theorem xk_v85 : xi_lkn xk_q85 = xi_needmN xm_85 xt_85 := by decide +kernel
theorem xk_85 : xi_okM xm_85 xt_85 := xi_okM_of xk_n85 xk_w85 (by decide +kernel) (by decide +kernel) xk_v85 (by decide +kernel)
-- 86: NoisyCodesModel.noise(II)I
theorem xk_n86 : xi_numm xm_86 xt_86 = true := by decide +kernel
def xk_p86 : List Nat := [596, 649, 650, 33, 651, 595, 717, 719, 33, 720, 19, 595, 733, 725, 727, 33, 728, 20]
def xk_q86 : List Nat := []
theorem xk_w86 : xi_lk xk_p86 = xi_needm xm_86 xt_86 := by decide +kernel
theorem xk_v86 : xi_lkn xk_q86 = xi_needmN xm_86 xt_86 := by decide +kernel
theorem xk_86 : xi_okM xm_86 xt_86 := xi_okM_of xk_n86 xk_w86 (by decide +kernel) (by decide +kernel) xk_v86 (by decide +kernel)
-- 87: NoisyCodesModel.syndrome(II)I
theorem xk_n87 : xi_numm xm_87 xt_87 = true := by decide +kernel
def xk_p87 : List Nat := [596, 601, 649, 650, 33, 651, 600, 649, 650, 33, 651, 595, 599, 595, 605, 666, 668, 33, 669, 16]
def xk_q87 : List Nat := []
theorem xk_w87 : xi_lk xk_p87 = xi_needm xm_87 xt_87 := by decide +kernel
theorem xk_v87 : xi_lkn xk_q87 = xi_needmN xm_87 xt_87 := by decide +kernel
theorem xk_87 : xi_okM xm_87 xt_87 := xi_okM_of xk_n87 xk_w87 (by decide +kernel) (by decide +kernel) xk_v87 (by decide +kernel)
-- 88: NoisyCodesModel.decode(I)I
theorem xk_n88 : xi_numm xm_88 xt_88 = true := by decide +kernel
def xk_p88 : List Nat := [596, 649, 650, 33, 651, 595, 595, 742, 744, 33, 745, 21, 595, 595, 595, 750, 752, 33, 753, 23]
def xk_q88 : List Nat := []
theorem xk_w88 : xi_lk xk_p88 = xi_needm xm_88 xt_88 := by decide +kernel
theorem xk_v88 : xi_lkn xk_q88 = xi_needmN xm_88 xt_88 := by decide +kernel
theorem xk_88 : xi_okM xm_88 xt_88 := xi_okM_of xk_n88 xk_w88 (by decide +kernel) (by decide +kernel) xk_v88 (by decide +kernel)
-- 89: NoisyCodesModel.mend(I)I
theorem xk_n89 : xi_numm xm_89 xt_89 = true := by decide +kernel
def xk_p89 : List Nat := [601, 605, 606, 746, 748, 33, 749, 22, 607, 710, 711, 33, 712]
def xk_q89 : List Nat := []
theorem xk_w89 : xi_lk xk_p89 = xi_needm xm_89 xt_89 := by decide +kernel
theorem xk_v89 : xi_lkn xk_q89 = xi_needmN xm_89 xt_89 := by decide +kernel
theorem xk_89 : xi_okM xm_89 xt_89 := xi_okM_of xk_n89 xk_w89 (by decide +kernel) (by decide +kernel) xk_v89 (by decide +kernel)
-- 90: NoisyCodesModel.errorsOf(I)I
theorem xk_n90 : xi_numm xm_90 xt_90 = true := by decide +kernel
def xk_p90 : List Nat := [706, 708, 33, 709, 18, 599, 608, 599, 600, 608, 608, 599, 600, 608, 608, 608]
def xk_q90 : List Nat := []
theorem xk_w90 : xi_lk xk_p90 = xi_needm xm_90 xt_90 := by decide +kernel
theorem xk_v90 : xi_lkn xk_q90 = xi_needmN xm_90 xt_90 := by decide +kernel
theorem xk_90 : xi_okM xm_90 xt_90 := xi_okM_of xk_n90 xk_w90 (by decide +kernel) (by decide +kernel) xk_v90 (by decide +kernel)

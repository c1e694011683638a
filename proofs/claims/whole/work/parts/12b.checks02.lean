/-! PRINTED by gen.py: the kernel checks the tables, 2 -/
-- 54: NoisyCodes$ShiftRegister.locate(LNoisyCodes$Field;[II[I)V
theorem xk_n54 : xi_numm xm_54 xt_54 = true := by decide +kernel
def xk_p54 : List Nat := [128, 546, 311, 39, 312, 128, 547, 548, 31, 549, 129, 551, 521, 520, 43, 128, 552, 529, 27, 531, 530, 553, 554, 535, 29, 536, 129, 128, 551, 521, 520, 43]
def xk_q54 : List Nat := []
theorem xk_w54 : xi_lk xk_p54 = xi_needm xm_54 xt_54 := by decide +kernel
theorem xk_v54 : xi_lkn xk_q54 = xi_needmN xm_54 xt_54 := by decide +kernel
theorem xk_54 : xi_okM xm_54 xt_54 := xi_okM_of xk_n54 xk_w54 (by decide +kernel) (by decide +kernel) xk_v54 (by decide +kernel)
-- 55: NoisyCodes$ShiftRegister.gapAt(LNoisyCodes$Field;II[I[I)I
theorem xk_n55 : xi_numm xm_55 xt_55 = true := by decide +kernel
def xk_p55 : List Nat := [550, 322, 27, 324, 323]
def xk_q55 : List Nat := []
theorem xk_w55 : xi_lk xk_p55 = xi_needm xm_55 xt_55 := by decide +kernel
theorem xk_v55 : xi_lkn xk_q55 = xi_needmN xm_55 xt_55 := by decide +kernel
theorem xk_55 : xi_okM xm_55 xt_55 := xi_okM_of xk_n55 xk_w55 (by decide +kernel) (by decide +kernel) xk_v55 (by decide +kernel)
-- 56: NoisyCodes$Mender.placesOfErrors(LNoisyCodes$Field;)I
theorem xk_n56 : xi_numm xm_56 xt_56 = true := by decide +kernel
def xk_p56 : List Nat := [559, 561, 28, 562, 12]
def xk_q56 : List Nat := [2, 2]
theorem xk_w56 : xi_lk xk_p56 = xi_needm xm_56 xt_56 := by decide +kernel
theorem xk_v56 : xi_lkn xk_q56 = xi_needmN xm_56 xt_56 := by decide +kernel
theorem xk_56 : xi_okM xm_56 xt_56 := xi_okM_of xk_n56 xk_w56 (by decide +kernel) (by decide +kernel) xk_v56 (by decide +kernel)
-- 57: NoisyCodes$Mender.locatorAtPower(LNoisyCodes$Field;I)I
theorem xk_n57 : xi_numm xm_57 xt_57 = true := by decide +kernel
def xk_p57 : List Nat := [156, 563, 314, 27, 316, 315, 564, 322, 27, 324, 323]
def xk_q57 : List Nat := []
theorem xk_w57 : xi_lk xk_p57 = xi_needm xm_57 xt_57 := by decide +kernel
theorem xk_v57 : xi_lkn xk_q57 = xi_needmN xm_57 xt_57 := by decide +kernel
theorem xk_57 : xi_okM xm_57 xt_57 := xi_okM_of xk_n57 xk_w57 (by decide +kernel) (by decide +kernel) xk_v57 (by decide +kernel)
-- 58: NoisyCodes.takeMended()V
theorem xk_n58 : xi_numm xm_58 xt_58 = true := by decide +kernel
def xk_p58 : List Nat := [173, 170, 171, 169, 166, 171, 570, 571, 26, 573, 572]
def xk_q58 : List Nat := []
theorem xk_w58 : xi_lk xk_p58 = xi_needm xm_58 xt_58 := by decide +kernel
theorem xk_v58 : xi_lkn xk_q58 = xi_needmN xm_58 xt_58 := by decide +kernel
theorem xk_58 : xi_okM xm_58 xt_58 := xi_okM_of xk_n58 xk_w58 (by decide +kernel) (by decide +kernel) xk_v58 (by decide +kernel)
-- 59: NoisyCodes$BlockCode.messageOf(I)I
theorem xk_n59 : xi_numm xm_59 xt_59 = true := by decide +kernel
def xk_p59 : List Nat := [88]
def xk_q59 : List Nat := []
theorem xk_w59 : xi_lk xk_p59 = xi_needm xm_59 xt_59 := by decide +kernel
theorem xk_v59 : xi_lkn xk_q59 = xi_needmN xm_59 xt_59 := by decide +kernel
theorem xk_59 : xi_okM xm_59 xt_59 := xi_okM_of xk_n59 xk_w59 (by decide +kernel) (by decide +kernel) xk_v59 (by decide +kernel)
-- 60: NoisyCodes.save(I)V
theorem xk_n60 : xi_numm xm_60 xt_60 = true := by decide +kernel
def xk_p60 : List Nat := [344, 346, 25, 347, 5, 405, 406, 25, 407, 170, 172, 581, 521, 520, 43]
def xk_q60 : List Nat := []
theorem xk_w60 : xi_lk xk_p60 = xi_needm xm_60 xt_60 := by decide +kernel
theorem xk_v60 : xi_lkn xk_q60 = xi_needmN xm_60 xt_60 := by decide +kernel
theorem xk_60 : xi_okM xm_60 xt_60 := xi_okM_of xk_n60 xk_w60 (by decide +kernel) (by decide +kernel) xk_v60 (by decide +kernel)
-- 61: NoisyCodes.load(I)I
theorem xk_n61 : xi_numm xm_61 xt_61 = true := by decide +kernel
def xk_p61 : List Nat := [344, 346, 25, 347, 5, 405, 406, 25, 407, 172, 494, 496, 25, 497, 9, 279, 38, 34, 228, 237, 242, 245, 247, 229, 230, 50, 51, 231, 236, 243, 259, 218, 260, 220, 261, 222, 232, 234, 224, 289, 290, 291, 252, 252, 253, 254, 255, 255, 256, 257, 229, 288, 280, 282, 239, 283, 284, 285, 286, 227, 226, 287, 566, 568, 25, 569, 13, 171, 172, 581, 521, 520, 43]
def xk_q61 : List Nat := [14, 16, 18, 22]
theorem xk_w61 : xi_lk xk_p61 = xi_needm xm_61 xt_61 := by decide +kernel
theorem xk_v61 : xi_lkn xk_q61 = xi_needmN xm_61 xt_61 := by decide +kernel
theorem xk_61 : xi_okM xm_61 xt_61 := xi_okM_of xk_n61 xk_w61 (by decide +kernel) (by decide +kernel) xk_v61 (by decide +kernel)
-- 62: NoisyCodesModel.<init>()V
theorem xk_n62 : xi_numm xm_62 xt_62 = true := by decide +kernel
def xk_p62 : List Nat := [594, 50, 51, 78, 604, 78, 605, 78, 606, 78, 607, 78, 608, 78, 609]
def xk_q62 : List Nat := []
theorem xk_w62 : xi_lk xk_p62 = xi_needm xm_62 xt_62 := by decide +kernel
theorem xk_v62 : xi_lkn xk_q62 = xi_needmN xm_62 xt_62 := by decide +kernel
theorem xk_62 : xi_okM xm_62 xt_62 := xi_okM_of xk_n62 xk_w62 (by decide +kernel) (by decide +kernel) xk_v62 (by decide +kernel)
-- 63: NoisyCodesModel.thrown()I
theorem xk_n63 : xi_numm xm_63 xt_63 = true := by decide +kernel
def xk_p63 : List Nat := [595]
def xk_q63 : List Nat := []
theorem xk_w63 : xi_lk xk_p63 = xi_needm xm_63 xt_63 := by decide +kernel
theorem xk_v63 : xi_lkn xk_q63 = xi_needmN xm_63 xt_63 := by decide +kernel
theorem xk_63 : xi_okM xm_63 xt_63 := xi_okM_of xk_n63 xk_w63 (by decide +kernel) (by decide +kernel) xk_v63 (by decide +kernel)
-- 64: NoisyCodesModel.begin(III)I
theorem xk_n64 : xi_numm xm_64 xt_64 = true := by decide +kernel
def xk_p64 : List Nat := [649, 650, 33, 651, 649, 650, 33, 651, 649, 650, 33, 651, 652, 653, 33, 654, 595, 595, 596, 597, 598, 599, 600, 601, 658, 660, 33, 661, 14, 606, 604, 605, 599, 603]
def xk_q64 : List Nat := []
theorem xk_w64 : xi_lk xk_p64 = xi_needm xm_64 xt_64 := by decide +kernel
theorem xk_v64 : xi_lkn xk_q64 = xi_needmN xm_64 xt_64 := by decide +kernel
theorem xk_64 : xi_okM xm_64 xt_64 := xi_okM_of xk_n64 xk_w64 (by decide +kernel) (by decide +kernel) xk_v64 (by decide +kernel)
-- 65: NoisyCodesModel.within(III)Z
theorem xk_n65 : xi_numm xm_65 xt_65 = true := by decide +kernel
def xk_p65 : List Nat := []
def xk_q65 : List Nat := []
theorem xk_w65 : xi_lk xk_p65 = xi_needm xm_65 xt_65 := by decide +kernel
theorem xk_v65 : xi_lkn xk_q65 = xi_needmN xm_65 xt_65 := by decide +kernel
theorem xk_65 : xi_okM xm_65 xt_65 := xi_okM_of xk_n65 xk_w65 (by decide +kernel) (by decide +kernel) xk_v65 (by decide +kernel)
-- 66: NoisyCodesModel.isPrimitive(II)Z
theorem xk_n66 : xi_numm xm_66 xt_66 = true := by decide +kernel
def xk_p66 : List Nat := [655, 656, 33, 657]
def xk_q66 : List Nat := []
theorem xk_w66 : xi_lk xk_p66 = xi_needm xm_66 xt_66 := by decide +kernel
theorem xk_v66 : xi_lkn xk_q66 = xi_needmN xm_66 xt_66 := by decide +kernel
theorem xk_66 : xi_okM xm_66 xt_66 := xi_okM_of xk_n66 xk_w66 (by decide +kernel) (by decide +kernel) xk_v66 (by decide +kernel)
-- 67: NoisyCodesModel.product(IIII)I
theorem xk_n67 : xi_numm xm_67 xt_67 = true := by decide +kernel
def xk_p67 : List Nat := []
def xk_q67 : List Nat := []
theorem xk_w67 : xi_lk xk_p67 = xi_needm xm_67 xt_67 := by decide +kernel
theorem xk_v67 : xi_lkn xk_q67 = xi_needmN xm_67 xt_67 := by decide +kernel
theorem xk_67 : xi_okM xm_67 xt_67 := xi_okM_of xk_n67 xk_w67 (by decide +kernel) (by decide +kernel) xk_v67 (by decide +kernel)
-- 68: NoisyCodesModel.makeGenerator()V
theorem xk_n68 : xi_numm xm_68 xt_68 = true := by decide +kernel
def xk_p68 : List Nat := [609, 603, 599, 599, 599, 662, 664, 33, 665, 15, 666, 668, 33, 669, 16, 603, 603, 603, 609, 609, 609, 597, 598, 655, 656, 33, 657, 602, 603, 602, 609, 602, 599, 603, 602, 608]
def xk_q68 : List Nat := []
theorem xk_w68 : xi_lk xk_p68 = xi_needm xm_68 xt_68 := by decide +kernel
theorem xk_v68 : xi_lkn xk_q68 = xi_needmN xm_68 xt_68 := by decide +kernel
theorem xk_68 : xi_okM xm_68 xt_68 := xi_okM_of xk_n68 xk_w68 (by decide +kernel) (by decide +kernel) xk_v68 (by decide +kernel)
-- 69: NoisyCodesModel.isZero(I)Z
theorem xk_n69 : xi_numm xm_69 xt_69 = true := by decide +kernel
def xk_p69 : List Nat := [598, 600, 649, 650, 33, 651, 599]
def xk_q69 : List Nat := []
theorem xk_w69 : xi_lk xk_p69 = xi_needm xm_69 xt_69 := by decide +kernel
theorem xk_v69 : xi_lkn xk_q69 = xi_needmN xm_69 xt_69 := by decide +kernel
theorem xk_69 : xi_okM xm_69 xt_69 := xi_okM_of xk_n69 xk_w69 (by decide +kernel) (by decide +kernel) xk_v69 (by decide +kernel)
-- 70: NoisyCodesModel.powerOf(I)I
theorem xk_n70 : xi_numm xm_70 xt_70 = true := by decide +kernel
def xk_p70 : List Nat := [599, 597, 598, 655, 656, 33, 657]
def xk_q70 : List Nat := []
theorem xk_w70 : xi_lk xk_p70 = xi_needm xm_70 xt_70 := by decide +kernel
theorem xk_v70 : xi_lkn xk_q70 = xi_needmN xm_70 xt_70 := by decide +kernel
theorem xk_70 : xi_okM xm_70 xt_70 := xi_okM_of xk_n70 xk_w70 (by decide +kernel) (by decide +kernel) xk_v70 (by decide +kernel)
-- 71: NoisyCodesModel.length()I
theorem xk_n71 : xi_numm xm_71 xt_71 = true := by decide +kernel
def xk_p71 : List Nat := [596, 595, 596, 599]
def xk_q71 : List Nat := []
theorem xk_w71 : xi_lk xk_p71 = xi_needm xm_71 xt_71 := by decide +kernel
theorem xk_v71 : xi_lkn xk_q71 = xi_needmN xm_71 xt_71 := by decide +kernel
theorem xk_71 : xi_okM xm_71 xt_71 := xi_okM_of xk_n71 xk_w71 (by decide +kernel) (by decide +kernel) xk_v71 (by decide +kernel)
-- 72: NoisyCodesModel.generator()I
theorem xk_n72 : xi_numm xm_72 xt_72 = true := by decide +kernel
def xk_p72 : List Nat := [596, 595, 596, 602]
def xk_q72 : List Nat := []
theorem xk_w72 : xi_lk xk_p72 = xi_needm xm_72 xt_72 := by decide +kernel
theorem xk_v72 : xi_lkn xk_q72 = xi_needmN xm_72 xt_72 := by decide +kernel
theorem xk_72 : xi_okM xm_72 xt_72 := xi_okM_of xk_n72 xk_w72 (by decide +kernel) (by decide +kernel) xk_v72 (by decide +kernel)

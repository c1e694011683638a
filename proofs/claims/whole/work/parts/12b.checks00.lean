/-! PRINTED by gen.py: the kernel checks the tables, 0 -/
-- 0: NoisyCodes.<init>()V
theorem xk_n0 : xi_numm xm_0 xt_0 = true := by decide +kernel
def xk_p0 : List Nat := [49, 50, 51, 52, 54, 55, 26, 56, 166, 166, 167, 104, 106, 107, 28, 108, 168, 78, 169, 78, 170, 78, 171, 164, 78, 172, 173, 174]
def xk_q0 : List Nat := [4]
theorem xk_w0 : xi_lk xk_p0 = xi_needm xm_0 xt_0 := by decide +kernel
theorem xk_v0 : xi_lkn xk_q0 = xi_needmN xm_0 xt_0 := by decide +kernel
theorem xk_0 : xi_okM xm_0 xt_0 := xi_okM_of xk_n0 xk_w0 (by decide +kernel) (by decide +kernel) xk_v0 (by decide +kernel)
-- 1: NoisyCodes$BlockCode.<init>()V
theorem xk_n1 : xi_numm xm_1 xt_1 = true := by decide +kernel
def xk_p1 : List Nat := [57, 50, 51, 58, 60, 61, 27, 62, 79, 78, 82, 83, 86, 88, 89]
def xk_q1 : List Nat := []
theorem xk_w1 : xi_lk xk_p1 = xi_needm xm_1 xt_1 := by decide +kernel
theorem xk_v1 : xi_lkn xk_q1 = xi_needmN xm_1 xt_1 := by decide +kernel
theorem xk_1 : xi_okM xm_1 xt_1 := xi_okM_of xk_n1 xk_w1 (by decide +kernel) (by decide +kernel) xk_v1 (by decide +kernel)
-- 2: NoisyCodes$Field.<init>()V
theorem xk_n2 : xi_numm xm_2 xt_2 = true := by decide +kernel
def xk_p2 : List Nat := [63, 50, 51, 78, 64, 78, 65, 67]
def xk_q2 : List Nat := []
theorem xk_w2 : xi_lk xk_p2 = xi_needm xm_2 xt_2 := by decide +kernel
theorem xk_v2 : xi_lkn xk_q2 = xi_needmN xm_2 xt_2 := by decide +kernel
theorem xk_2 : xi_okM xm_2 xt_2 := xi_okM_of xk_n2 xk_w2 (by decide +kernel) (by decide +kernel) xk_v2 (by decide +kernel)
-- 3: NoisyCodes$Mender.<init>()V
theorem xk_n3 : xi_numm xm_3 xt_3 = true := by decide +kernel
def xk_p3 : List Nat := [109, 50, 51, 110, 154, 154, 112, 115, 30, 116, 154, 122, 124, 125, 31, 126, 154, 135, 137, 138, 32, 139, 78, 155, 78, 156]
def xk_q3 : List Nat := [10]
theorem xk_w3 : xi_lk xk_p3 = xi_needm xm_3 xt_3 := by decide +kernel
theorem xk_v3 : xi_lkn xk_q3 = xi_needmN xm_3 xt_3 := by decide +kernel
theorem xk_3 : xi_okM xm_3 xt_3 := xi_okM_of xk_n3 xk_w3 (by decide +kernel) (by decide +kernel) xk_v3 (by decide +kernel)
-- 4: NoisyCodes$Formulas.<init>()V
theorem xk_n4 : xi_numm xm_4 xt_4 = true := by decide +kernel
def xk_p4 : List Nat := [118, 29, 119]
def xk_q4 : List Nat := [11]
theorem xk_w4 : xi_lk xk_p4 = xi_needm xm_4 xt_4 := by decide +kernel
theorem xk_v4 : xi_lkn xk_q4 = xi_needmN xm_4 xt_4 := by decide +kernel
theorem xk_4 : xi_okM xm_4 xt_4 := xi_okM_of xk_n4 xk_w4 (by decide +kernel) (by decide +kernel) xk_v4 (by decide +kernel)
-- 5: NoisyCodes$Way.<init>()V
theorem xk_n5 : xi_numm xm_5 xt_5 = true := by decide +kernel
def xk_p5 : List Nat := [120, 50, 51]
def xk_q5 : List Nat := []
theorem xk_w5 : xi_lk xk_p5 = xi_needm xm_5 xt_5 := by decide +kernel
theorem xk_v5 : xi_lkn xk_q5 = xi_needmN xm_5 xt_5 := by decide +kernel
theorem xk_5 : xi_okM xm_5 xt_5 := xi_okM_of xk_n5 xk_w5 (by decide +kernel) (by decide +kernel) xk_v5 (by decide +kernel)
-- 6: NoisyCodes$ShiftRegister.<init>()V
theorem xk_n6 : xi_numm xm_6 xt_6 = true := by decide +kernel
def xk_p6 : List Nat := [118, 29, 119, 78, 128, 78, 129]
def xk_q6 : List Nat := [12]
theorem xk_w6 : xi_lk xk_p6 = xi_needm xm_6 xt_6 := by decide +kernel
theorem xk_v6 : xi_lkn xk_q6 = xi_needmN xm_6 xt_6 := by decide +kernel
theorem xk_6 : xi_okM xm_6 xt_6 := xi_okM_of xk_n6 xk_w6 (by decide +kernel) (by decide +kernel) xk_v6 (by decide +kernel)
-- 7: NoisyCodes$Division.<init>()V
theorem xk_n7 : xi_numm xm_7 xt_7 = true := by decide +kernel
def xk_p7 : List Nat := [118, 29, 119, 78, 141, 78, 142, 78, 143, 78, 144]
def xk_q7 : List Nat := [13]
theorem xk_w7 : xi_lk xk_p7 = xi_needm xm_7 xt_7 := by decide +kernel
theorem xk_v7 : xi_lkn xk_q7 = xi_needmN xm_7 xt_7 := by decide +kernel
theorem xk_7 : xi_okM xm_7 xt_7 := xi_okM_of xk_n7 xk_w7 (by decide +kernel) (by decide +kernel) xk_v7 (by decide +kernel)
-- 8: NoisyCodes.begin(III)I
theorem xk_n8 : xi_numm xm_8 xt_8 = true := by decide +kernel
def xk_p8 : List Nat := [203, 204, 27, 205, 206, 37, 34, 228, 237, 242, 245, 247, 229, 230, 50, 51, 231, 236, 243, 259, 218, 260, 220, 261, 222, 232, 234, 224, 249, 250, 251, 252, 252, 253, 254, 255, 255, 256, 257, 229, 248, 207, 215, 216, 217, 219, 221, 223, 227, 226, 225, 270, 271, 27, 272, 279, 38, 34, 228, 237, 242, 245, 247, 229, 230, 50, 51, 231, 236, 243, 259, 218, 260, 220, 261, 222, 232, 234, 224, 289, 290, 291, 252, 252, 253, 254, 255, 255, 256, 257, 229, 288, 280, 282, 239, 283, 284, 285, 286, 227, 226, 287, 167, 294, 295, 27, 297, 296, 166, 298, 299, 26, 301, 300, 173, 331, 333, 25, 334, 4, 174, 166]
def xk_q8 : List Nat := [14, 16, 18, 21, 14, 16, 18, 22, 9]
theorem xk_w8 : xi_lk xk_p8 = xi_needm xm_8 xt_8 := by decide +kernel
theorem xk_v8 : xi_lkn xk_q8 = xi_needmN xm_8 xt_8 := by decide +kernel
theorem xk_8 : xi_okM xm_8 xt_8 := xi_okM_of xk_n8 xk_w8 (by decide +kernel) (by decide +kernel) xk_v8 (by decide +kernel)
-- 9: NoisyCodes$Field.hasRightDegree(I)Z
theorem xk_n9 : xi_numm xm_9 xt_9 = true := by decide +kernel
def xk_p9 : List Nat := []
def xk_q9 : List Nat := []
theorem xk_w9 : xi_lk xk_p9 = xi_needm xm_9 xt_9 := by decide +kernel
theorem xk_v9 : xi_lkn xk_q9 = xi_needmN xm_9 xt_9 := by decide +kernel
theorem xk_9 : xi_okM xm_9 xt_9 := xi_okM_of xk_n9 xk_w9 (by decide +kernel) (by decide +kernel) xk_v9 (by decide +kernel)
-- 10: NoisyCodes$Field.isPrimitive(I)Z
theorem xk_n10 : xi_numm xm_10 xt_10 = true := by decide +kernel
def xk_p10 : List Nat := [273, 274, 27, 275, 276, 277, 27, 278, 276, 277, 27, 278]
def xk_q10 : List Nat := []
theorem xk_w10 : xi_lk xk_p10 = xi_needm xm_10 xt_10 := by decide +kernel
theorem xk_v10 : xi_lkn xk_q10 = xi_needmN xm_10 xt_10 := by decide +kernel
theorem xk_10 : xi_okM xm_10 xt_10 := xi_okM_of xk_n10 xk_w10 (by decide +kernel) (by decide +kernel) xk_v10 (by decide +kernel)
-- 11: NoisyCodes$Field.orderFor(I)I
theorem xk_n11 : xi_numm xm_11 xt_11 = true := by decide +kernel
def xk_p11 : List Nat := []
def xk_q11 : List Nat := []
theorem xk_w11 : xi_lk xk_p11 = xi_needm xm_11 xt_11 := by decide +kernel
theorem xk_v11 : xi_lkn xk_q11 = xi_needmN xm_11 xt_11 := by decide +kernel
theorem xk_11 : xi_okM xm_11 xt_11 := xi_okM_of xk_n11 xk_w11 (by decide +kernel) (by decide +kernel) xk_v11 (by decide +kernel)
-- 12: NoisyCodes$Field.timesX(II)I
theorem xk_n12 : xi_numm xm_12 xt_12 = true := by decide +kernel
def xk_p12 : List Nat := [273, 274, 27, 275]
def xk_q12 : List Nat := []
theorem xk_w12 : xi_lk xk_p12 = xi_needm xm_12 xt_12 := by decide +kernel
theorem xk_v12 : xi_lkn xk_q12 = xi_needmN xm_12 xt_12 := by decide +kernel
theorem xk_12 : xi_okM xm_12 xt_12 := xi_okM_of xk_n12 xk_w12 (by decide +kernel) (by decide +kernel) xk_v12 (by decide +kernel)
-- 13: NoisyCodes$Field.makeFrom(I)V
theorem xk_n13 : xi_numm xm_13 xt_13 = true := by decide +kernel
def xk_p13 : List Nat := [273, 274, 27, 275, 67, 67, 64, 65, 276, 277, 27, 278]
def xk_q13 : List Nat := []
theorem xk_w13 : xi_lk xk_p13 = xi_needm xm_13 xt_13 := by decide +kernel
theorem xk_v13 : xi_lkn xk_q13 = xi_needmN xm_13 xt_13 := by decide +kernel
theorem xk_13 : xi_okM xm_13 xt_13 := xi_okM_of xk_n13 xk_w13 (by decide +kernel) (by decide +kernel) xk_v13 (by decide +kernel)
-- 14: NoisyCodes$BlockCode.makeFor(I)V
theorem xk_n14 : xi_numm xm_14 xt_14 = true := by decide +kernel
def xk_p14 : List Nat := [302, 304, 26, 305, 1, 83, 306, 308, 26, 309, 2, 86, 325, 326, 40, 327, 88, 79, 88, 89]
def xk_q14 : List Nat := [1]
theorem xk_w14 : xi_lk xk_p14 = xi_needm xm_14 xt_14 := by decide +kernel
theorem xk_v14 : xi_lkn xk_q14 = xi_needmN xm_14 xt_14 := by decide +kernel
theorem xk_14 : xi_okM xm_14 xt_14 := xi_okM_of xk_n14 xk_w14 (by decide +kernel) (by decide +kernel) xk_v14 (by decide +kernel)
-- 15: NoisyCodes$BlockCode.rootsFor(I)I
theorem xk_n15 : xi_numm xm_15 xt_15 = true := by decide +kernel
def xk_p15 : List Nat := [79]
def xk_q15 : List Nat := [1]
theorem xk_w15 : xi_lk xk_p15 = xi_needm xm_15 xt_15 := by decide +kernel
theorem xk_v15 : xi_lkn xk_q15 = xi_needmN xm_15 xt_15 := by decide +kernel
theorem xk_15 : xi_okM xm_15 xt_15 := xi_okM_of xk_n15 xk_w15 (by decide +kernel) (by decide +kernel) xk_v15 (by decide +kernel)
-- 16: NoisyCodes$BlockCode.polynomialOf(I)I
theorem xk_n16 : xi_numm xm_16 xt_16 = true := by decide +kernel
def xk_p16 : List Nat := [82, 310, 311, 39, 312, 82, 79, 79, 313, 314, 27, 316, 315, 317, 319, 26, 320, 3, 82, 82]
def xk_q16 : List Nat := [1]
theorem xk_w16 : xi_lk xk_p16 = xi_needm xm_16 xt_16 := by decide +kernel
theorem xk_v16 : xi_lkn xk_q16 = xi_needmN xm_16 xt_16 := by decide +kernel
theorem xk_16 : xi_okM xm_16 xt_16 := xi_okM_of xk_n16 xk_w16 (by decide +kernel) (by decide +kernel) xk_v16 (by decide +kernel)
-- 17: java/util/Arrays.fill([II)V
theorem xk_n17 : xi_numm xm_17 xt_17 = true := by decide +kernel
def xk_p17 : List Nat := []
def xk_q17 : List Nat := []
theorem xk_w17 : xi_lk xk_p17 = xi_needm xm_17 xt_17 := by decide +kernel
theorem xk_v17 : xi_lkn xk_q17 = xi_needmN xm_17 xt_17 := by decide +kernel
theorem xk_17 : xi_okM xm_17 xt_17 := xi_okM_of xk_n17 xk_w17 (by decide +kernel) (by decide +kernel) xk_v17 (by decide +kernel)
-- 18: NoisyCodes$Field.raised(I)I
theorem xk_n18 : xi_numm xm_18 xt_18 = true := by decide +kernel
def xk_p18 : List Nat := [64, 67]
def xk_q18 : List Nat := []
theorem xk_w18 : xi_lk xk_p18 = xi_needm xm_18 xt_18 := by decide +kernel
theorem xk_v18 : xi_lkn xk_q18 = xi_needmN xm_18 xt_18 := by decide +kernel
theorem xk_18 : xi_okM xm_18 xt_18 := xi_okM_of xk_n18 xk_w18 (by decide +kernel) (by decide +kernel) xk_v18 (by decide +kernel)
-- 19: NoisyCodes$BlockCode.multiplyByRoot(I)V
theorem xk_n19 : xi_numm xm_19 xt_19 = true := by decide +kernel
def xk_p19 : List Nat := [82, 82, 82, 79, 82, 321, 322, 27, 324, 323, 82, 79, 82, 321, 322, 27, 324, 323]
def xk_q19 : List Nat := []
theorem xk_w19 : xi_lk xk_p19 = xi_needm xm_19 xt_19 := by decide +kernel
theorem xk_v19 : xi_lkn xk_q19 = xi_needmN xm_19 xt_19 := by decide +kernel
theorem xk_19 : xi_okM xm_19 xt_19 := xi_okM_of xk_n19 xk_w19 (by decide +kernel) (by decide +kernel) xk_v19 (by decide +kernel)
-- 20: NoisyCodes$Field.product(II)I
theorem xk_n20 : xi_numm xm_20 xt_20 = true := by decide +kernel
def xk_p20 : List Nat := [64, 65, 65, 67]
def xk_q20 : List Nat := []
theorem xk_w20 : xi_lk xk_p20 = xi_needm xm_20 xt_20 := by decide +kernel
theorem xk_v20 : xi_lkn xk_q20 = xi_needmN xm_20 xt_20 := by decide +kernel
theorem xk_20 : xi_okM xm_20 xt_20 := xi_okM_of xk_n20 xk_w20 (by decide +kernel) (by decide +kernel) xk_v20 (by decide +kernel)
-- 21: java/lang/Integer.bitCount(I)I
theorem xk_n21 : xi_numm xm_21 xt_21 = true := by decide +kernel
def xk_p21 : List Nat := [328, 329, 329, 330]
def xk_q21 : List Nat := []
theorem xk_w21 : xi_lk xk_p21 = xi_needm xm_21 xt_21 := by decide +kernel
theorem xk_v21 : xi_lkn xk_q21 = xi_needmN xm_21 xt_21 := by decide +kernel
theorem xk_21 : xi_okM xm_21 xt_21 := xi_okM_of xk_n21 xk_w21 (by decide +kernel) (by decide +kernel) xk_v21 (by decide +kernel)
-- 22: NoisyCodes.clearWords()V
theorem xk_n22 : xi_numm xm_22 xt_22 = true := by decide +kernel
def xk_p22 : List Nat := [169, 335, 311, 39, 312, 170, 335, 311, 39, 312, 171, 335, 311, 39, 312, 172, 335, 311, 39, 312]
def xk_q22 : List Nat := []
theorem xk_w22 : xi_lk xk_p22 = xi_needm xm_22 xt_22 := by decide +kernel
theorem xk_v22 : xi_lkn xk_q22 = xi_needmN xm_22 xt_22 := by decide +kernel
theorem xk_22 : xi_okM xm_22 xt_22 := xi_okM_of xk_n22 xk_w22 (by decide +kernel) (by decide +kernel) xk_v22 (by decide +kernel)
-- 23: NoisyCodes.length()I
theorem xk_n23 : xi_numm xm_23 xt_23 = true := by decide +kernel
def xk_p23 : List Nat := [344, 346, 25, 347, 5, 167]
def xk_q23 : List Nat := [3]
theorem xk_w23 : xi_lk xk_p23 = xi_needm xm_23 xt_23 := by decide +kernel
theorem xk_v23 : xi_lkn xk_q23 = xi_needmN xm_23 xt_23 := by decide +kernel
theorem xk_23 : xi_okM xm_23 xt_23 := xi_okM_of xk_n23 xk_w23 (by decide +kernel) (by decide +kernel) xk_v23 (by decide +kernel)
-- 24: NoisyCodes.requireCode()V
theorem xk_n24 : xi_numm xm_24 xt_24 = true := by decide +kernel
def xk_p24 : List Nat := [174, 348, 41, 34, 228, 237, 242, 245, 247, 229, 230, 50, 51, 231, 236, 243, 259, 218, 260, 220, 261, 222, 232, 234, 224, 358, 359, 360, 252, 252, 253, 254, 255, 255, 256, 257, 229, 357, 349, 351, 240, 352, 353, 354, 355, 227, 226, 356]
def xk_q24 : List Nat := [14, 16, 18, 23]
theorem xk_w24 : xi_lk xk_p24 = xi_needm xm_24 xt_24 := by decide +kernel
theorem xk_v24 : xi_lkn xk_q24 = xi_needmN xm_24 xt_24 := by decide +kernel
theorem xk_24 : xi_okM xm_24 xt_24 := xi_okM_of xk_n24 xk_w24 (by decide +kernel) (by decide +kernel) xk_v24 (by decide +kernel)
-- 25: NoisyCodes.generator()I
theorem xk_n25 : xi_numm xm_25 xt_25 = true := by decide +kernel
def xk_p25 : List Nat := [344, 346, 25, 347, 5, 166]
def xk_q25 : List Nat := [8]
theorem xk_w25 : xi_lk xk_p25 = xi_needm xm_25 xt_25 := by decide +kernel
theorem xk_v25 : xi_lkn xk_q25 = xi_needmN xm_25 xt_25 := by decide +kernel
theorem xk_25 : xi_okM xm_25 xt_25 := xi_okM_of xk_n25 xk_w25 (by decide +kernel) (by decide +kernel) xk_v25 (by decide +kernel)
-- 26: NoisyCodes.power(I)I
theorem xk_n26 : xi_numm xm_26 xt_26 = true := by decide +kernel
def xk_p26 : List Nat := [344, 346, 25, 347, 5, 206, 37, 34, 228, 237, 242, 245, 247, 229, 230, 50, 51, 231, 236, 243, 259, 218, 260, 220, 261, 222, 232, 234, 224, 249, 250, 251, 252, 252, 253, 254, 255, 255, 256, 257, 229, 248, 207, 215, 216, 217, 219, 221, 223, 227, 226, 225, 167, 377, 314, 27, 316, 315]
def xk_q26 : List Nat := [14, 16, 18, 21]
theorem xk_w26 : xi_lk xk_p26 = xi_needm xm_26 xt_26 := by decide +kernel
theorem xk_v26 : xi_lkn xk_q26 = xi_needmN xm_26 xt_26 := by decide +kernel
theorem xk_26 : xi_okM xm_26 xt_26 := xi_okM_of xk_n26 xk_w26 (by decide +kernel) (by decide +kernel) xk_v26 (by decide +kernel)
-- 27: NoisyCodes.log(I)I
theorem xk_n27 : xi_numm xm_27 xt_27 = true := by decide +kernel
def xk_p27 : List Nat := [344, 346, 25, 347, 5, 167, 385, 386, 27, 388, 387, 206, 37, 34, 228, 237, 242, 245, 247, 229, 230, 50, 51, 231, 236, 243, 259, 218, 260, 220, 261, 222, 232, 234, 224, 249, 250, 251, 252, 252, 253, 254, 255, 255, 256, 257, 229, 248, 207, 215, 216, 217, 219, 221, 223, 227, 226, 225, 167]
def xk_q27 : List Nat := [14, 16, 18, 21, 0]
theorem xk_w27 : xi_lk xk_p27 = xi_needm xm_27 xt_27 := by decide +kernel
theorem xk_v27 : xi_lkn xk_q27 = xi_needmN xm_27 xt_27 := by decide +kernel
theorem xk_27 : xi_okM xm_27 xt_27 := xi_okM_of xk_n27 xk_w27 (by decide +kernel) (by decide +kernel) xk_v27 (by decide +kernel)
-- 28: NoisyCodes$Field.holds(I)Z
theorem xk_n28 : xi_numm xm_28 xt_28 = true := by decide +kernel
def xk_p28 : List Nat := [67]
def xk_q28 : List Nat := []
theorem xk_w28 : xi_lk xk_p28 = xi_needm xm_28 xt_28 := by decide +kernel
theorem xk_v28 : xi_lkn xk_q28 = xi_needmN xm_28 xt_28 := by decide +kernel
theorem xk_28 : xi_okM xm_28 xt_28 := xi_okM_of xk_n28 xk_w28 (by decide +kernel) (by decide +kernel) xk_v28 (by decide +kernel)
-- 29: NoisyCodes.times(II)I
theorem xk_n29 : xi_numm xm_29 xt_29 = true := by decide +kernel
def xk_p29 : List Nat := [344, 346, 25, 347, 5, 167, 385, 386, 27, 388, 387, 167, 385, 386, 27, 388, 387, 206, 37, 34, 228, 237, 242, 245, 247, 229, 230, 50, 51, 231, 236, 243, 259, 218, 260, 220, 261, 222, 232, 234, 224, 249, 250, 251, 252, 252, 253, 254, 255, 255, 256, 257, 229, 248, 207, 215, 216, 217, 219, 221, 223, 227, 226, 225, 167, 396, 322, 27, 324, 323]
def xk_q29 : List Nat := [14, 16, 18, 21]
theorem xk_w29 : xi_lk xk_p29 = xi_needm xm_29 xt_29 := by decide +kernel
theorem xk_v29 : xi_lkn xk_q29 = xi_needmN xm_29 xt_29 := by decide +kernel
theorem xk_29 : xi_okM xm_29 xt_29 := xi_okM_of xk_n29 xk_w29 (by decide +kernel) (by decide +kernel) xk_v29 (by decide +kernel)
-- 30: NoisyCodes.put(II)V
theorem xk_n30 : xi_numm xm_30 xt_30 = true := by decide +kernel
def xk_p30 : List Nat := [344, 346, 25, 347, 5, 173, 166, 405, 406, 25, 407, 206, 37, 34, 228, 237, 242, 245, 247, 229, 230, 50, 51, 231, 236, 243, 259, 218, 260, 220, 261, 222, 232, 234, 224, 249, 250, 251, 252, 252, 253, 254, 255, 255, 256, 257, 229, 248, 207, 215, 216, 217, 219, 221, 223, 227, 226, 225, 166, 166, 169, 169]
def xk_q30 : List Nat := [9, 14, 16, 18, 21, 9, 9]
theorem xk_w30 : xi_lk xk_p30 = xi_needm xm_30 xt_30 := by decide +kernel
theorem xk_v30 : xi_lkn xk_q30 = xi_needmN xm_30 xt_30 := by decide +kernel
theorem xk_30 : xi_okM xm_30 xt_30 := xi_okM_of xk_n30 xk_w30 (by decide +kernel) (by decide +kernel) xk_v30 (by decide +kernel)

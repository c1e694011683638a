/-! PRINTED by gen.py: the kernel checks the tables, 1 -/
-- 31: NoisyCodes.requireIndex(II)V
theorem xk_n31 : xi_numm xm_31 xt_31 = true := by decide +kernel
def xk_p31 : List Nat := [408, 42, 34, 228, 237, 242, 245, 247, 229, 230, 50, 51, 231, 236, 243, 259, 218, 260, 220, 261, 222, 232, 234, 224, 418, 419, 420, 252, 252, 253, 254, 255, 255, 256, 257, 229, 417, 409, 411, 241, 412, 413, 414, 415, 227, 226, 416]
def xk_q31 : List Nat := [14, 16, 18, 24]
theorem xk_w31 : xi_lk xk_p31 = xi_needm xm_31 xt_31 := by decide +kernel
theorem xk_v31 : xi_lkn xk_q31 = xi_needmN xm_31 xt_31 := by decide +kernel
theorem xk_31 : xi_okM xm_31 xt_31 := xi_okM_of xk_n31 xk_w31 (by decide +kernel) (by decide +kernel) xk_v31 (by decide +kernel)
-- 32: NoisyCodes.get(I)I
theorem xk_n32 : xi_numm xm_32 xt_32 = true := by decide +kernel
def xk_p32 : List Nat := [344, 346, 25, 347, 5, 173, 166, 405, 406, 25, 407, 169, 166, 166]
def xk_q32 : List Nat := [9, 9, 9]
theorem xk_w32 : xi_lk xk_p32 = xi_needm xm_32 xt_32 := by decide +kernel
theorem xk_v32 : xi_lkn xk_q32 = xi_needmN xm_32 xt_32 := by decide +kernel
theorem xk_32 : xi_okM xm_32 xt_32 := xi_okM_of xk_n32 xk_w32 (by decide +kernel) (by decide +kernel) xk_v32 (by decide +kernel)
-- 33: NoisyCodes.encode()I
theorem xk_n33 : xi_numm xm_33 xt_33 = true := by decide +kernel
def xk_p33 : List Nat := [344, 346, 25, 347, 5, 173, 170, 166, 169, 437, 438, 26, 440, 439, 170, 445, 326, 40, 327]
def xk_q33 : List Nat := []
theorem xk_w33 : xi_lk xk_p33 = xi_needm xm_33 xt_33 := by decide +kernel
theorem xk_v33 : xi_lkn xk_q33 = xi_needmN xm_33 xt_33 := by decide +kernel
theorem xk_33 : xi_okM xm_33 xt_33 := xi_okM_of xk_n33 xk_w33 (by decide +kernel) (by decide +kernel) xk_v33 (by decide +kernel)
-- 34: NoisyCodes$BlockCode.codewordOf(I)I
theorem xk_n34 : xi_numm xm_34 xt_34 = true := by decide +kernel
def xk_p34 : List Nat := [88, 441, 443, 26, 444, 6]
def xk_q34 : List Nat := []
theorem xk_w34 : xi_lk xk_p34 = xi_needm xm_34 xt_34 := by decide +kernel
theorem xk_v34 : xi_lkn xk_q34 = xi_needmN xm_34 xt_34 := by decide +kernel
theorem xk_34 : xi_okM xm_34 xt_34 := xi_okM_of xk_n34 xk_w34 (by decide +kernel) (by decide +kernel) xk_v34 (by decide +kernel)
-- 35: NoisyCodes$BlockCode.remainderOf(I)I
theorem xk_n35 : xi_numm xm_35 xt_35 = true := by decide +kernel
def xk_p35 : List Nat := [79, 88, 86, 88]
def xk_q35 : List Nat := [1]
theorem xk_w35 : xi_lk xk_p35 = xi_needm xm_35 xt_35 := by decide +kernel
theorem xk_v35 : xi_lkn xk_q35 = xi_needmN xm_35 xt_35 := by decide +kernel
theorem xk_35 : xi_okM xm_35 xt_35 := xi_okM_of xk_n35 xk_w35 (by decide +kernel) (by decide +kernel) xk_v35 (by decide +kernel)
-- 36: NoisyCodes.bit(I)I
theorem xk_n36 : xi_numm xm_36 xt_36 = true := by decide +kernel
def xk_p36 : List Nat := [344, 346, 25, 347, 5, 453, 455, 25, 456, 7, 405, 406, 25, 407, 170, 173, 173]
def xk_q36 : List Nat := []
theorem xk_w36 : xi_lk xk_p36 = xi_needm xm_36 xt_36 := by decide +kernel
theorem xk_v36 : xi_lkn xk_q36 = xi_needmN xm_36 xt_36 := by decide +kernel
theorem xk_36 : xi_okM xm_36 xt_36 := xi_okM_of xk_n36 xk_w36 (by decide +kernel) (by decide +kernel) xk_v36 (by decide +kernel)
-- 37: NoisyCodes.channelBits()I
theorem xk_n37 : xi_numm xm_37 xt_37 = true := by decide +kernel
def xk_p37 : List Nat := [173, 167]
def xk_q37 : List Nat := [3]
theorem xk_w37 : xi_lk xk_p37 = xi_needm xm_37 xt_37 := by decide +kernel
theorem xk_v37 : xi_lkn xk_q37 = xi_needmN xm_37 xt_37 := by decide +kernel
theorem xk_37 : xi_okM xm_37 xt_37 := xi_okM_of xk_n37 xk_w37 (by decide +kernel) (by decide +kernel) xk_v37 (by decide +kernel)
-- 38: NoisyCodes.burst(II)V
theorem xk_n38 : xi_numm xm_38 xt_38 = true := by decide +kernel
def xk_p38 : List Nat := [344, 346, 25, 347, 5, 453, 455, 25, 456, 7, 405, 406, 25, 407, 408, 42, 34, 228, 237, 242, 245, 247, 229, 230, 50, 51, 231, 236, 243, 259, 218, 260, 220, 261, 222, 232, 234, 224, 418, 419, 420, 252, 252, 253, 254, 255, 255, 256, 257, 229, 417, 409, 411, 241, 412, 413, 414, 415, 227, 226, 416, 206, 37, 34, 228, 237, 242, 245, 247, 229, 230, 50, 51, 231, 236, 243, 259, 218, 260, 220, 261, 222, 232, 234, 224, 249, 250, 251, 252, 252, 253, 254, 255, 255, 256, 257, 229, 248, 207, 215, 216, 217, 219, 221, 223, 227, 226, 225, 464, 466, 25, 467, 8]
def xk_q38 : List Nat := [14, 16, 18, 24, 14, 16, 18, 21]
theorem xk_w38 : xi_lk xk_p38 = xi_needm xm_38 xt_38 := by decide +kernel
theorem xk_v38 : xi_lkn xk_q38 = xi_needmN xm_38 xt_38 := by decide +kernel
theorem xk_38 : xi_okM xm_38 xt_38 := xi_okM_of xk_n38 xk_w38 (by decide +kernel) (by decide +kernel) xk_v38 (by decide +kernel)
-- 39: NoisyCodes.flip(I)V
theorem xk_n39 : xi_numm xm_39 xt_39 = true := by decide +kernel
def xk_p39 : List Nat := [170, 173, 173]
def xk_q39 : List Nat := []
theorem xk_w39 : xi_lk xk_p39 = xi_needm xm_39 xt_39 := by decide +kernel
theorem xk_v39 : xi_lkn xk_q39 = xi_needmN xm_39 xt_39 := by decide +kernel
theorem xk_39 : xi_okM xm_39 xt_39 := xi_okM_of xk_n39 xk_w39 (by decide +kernel) (by decide +kernel) xk_v39 (by decide +kernel)
-- 40: NoisyCodes.noise(II)I
theorem xk_n40 : xi_numm xm_40 xt_40 = true := by decide +kernel
def xk_p40 : List Nat := [344, 346, 25, 347, 5, 206, 37, 34, 228, 237, 242, 245, 247, 229, 230, 50, 51, 231, 236, 243, 259, 218, 260, 220, 261, 222, 232, 234, 224, 249, 250, 251, 252, 252, 253, 254, 255, 255, 256, 257, 229, 248, 207, 215, 216, 217, 219, 221, 223, 227, 226, 225, 453, 455, 25, 456, 7, 475, 464, 466, 25, 467, 8]
def xk_q40 : List Nat := [14, 16, 18, 21]
theorem xk_w40 : xi_lk xk_p40 = xi_needm xm_40 xt_40 := by decide +kernel
theorem xk_v40 : xi_lkn xk_q40 = xi_needmN xm_40 xt_40 := by decide +kernel
theorem xk_40 : xi_okM xm_40 xt_40 := xi_okM_of xk_n40 xk_w40 (by decide +kernel) (by decide +kernel) xk_v40 (by decide +kernel)
-- 41: NoisyCodes.syndrome(II)I
theorem xk_n41 : xi_numm xm_41 xt_41 = true := by decide +kernel
def xk_p41 : List Nat := [344, 346, 25, 347, 5, 173, 405, 406, 25, 407, 166, 408, 42, 34, 228, 237, 242, 245, 247, 229, 230, 50, 51, 231, 236, 243, 259, 218, 260, 220, 261, 222, 232, 234, 224, 418, 419, 420, 252, 252, 253, 254, 255, 255, 256, 257, 229, 417, 409, 411, 241, 412, 413, 414, 415, 227, 226, 416, 166, 170, 483, 484, 26, 486, 485]
def xk_q41 : List Nat := [7, 14, 16, 18, 24]
theorem xk_w41 : xi_lk xk_p41 = xi_needm xm_41 xt_41 := by decide +kernel
theorem xk_v41 : xi_lkn xk_q41 = xi_needmN xm_41 xt_41 := by decide +kernel
theorem xk_41 : xi_okM xm_41 xt_41 := xi_okM_of xk_n41 xk_w41 (by decide +kernel) (by decide +kernel) xk_v41 (by decide +kernel)
-- 42: NoisyCodes$BlockCode.valueAtPower(II)I
theorem xk_n42 : xi_numm xm_42 xt_42 = true := by decide +kernel
def xk_p42 : List Nat := [79, 79, 313, 314, 27, 316, 315]
def xk_q42 : List Nat := [1]
theorem xk_w42 : xi_lk xk_p42 = xi_needm xm_42 xt_42 := by decide +kernel
theorem xk_v42 : xi_lkn xk_q42 = xi_needmN xm_42 xt_42 := by decide +kernel
theorem xk_42 : xi_okM xm_42 xt_42 := xi_okM_of xk_n42 xk_w42 (by decide +kernel) (by decide +kernel) xk_v42 (by decide +kernel)
-- 43: NoisyCodes.decode(I)I
theorem xk_n43 : xi_numm xm_43 xt_43 = true := by decide +kernel
def xk_p43 : List Nat := [344, 346, 25, 347, 5, 206, 37, 34, 228, 237, 242, 245, 247, 229, 230, 50, 51, 231, 236, 243, 259, 218, 260, 220, 261, 222, 232, 234, 224, 249, 250, 251, 252, 252, 253, 254, 255, 255, 256, 257, 229, 248, 207, 215, 216, 217, 219, 221, 223, 227, 226, 225, 170, 494, 496, 25, 497, 9, 279, 38, 34, 228, 237, 242, 245, 247, 229, 230, 50, 51, 231, 236, 243, 259, 218, 260, 220, 261, 222, 232, 234, 224, 289, 290, 291, 252, 252, 253, 254, 255, 255, 256, 257, 229, 288, 280, 282, 239, 283, 284, 285, 286, 227, 226, 287, 566, 568, 25, 569, 13]
def xk_q43 : List Nat := [14, 16, 18, 21, 14, 16, 18, 22]
theorem xk_w43 : xi_lk xk_p43 = xi_needm xm_43 xt_43 := by decide +kernel
theorem xk_v43 : xi_lkn xk_q43 = xi_needmN xm_43 xt_43 := by decide +kernel
theorem xk_43 : xi_okM xm_43 xt_43 := xi_okM_of xk_n43 xk_w43 (by decide +kernel) (by decide +kernel) xk_v43 (by decide +kernel)
-- 44: NoisyCodes.mend([II)I
theorem xk_n44 : xi_numm xm_44 xt_44 = true := by decide +kernel
def xk_p44 : List Nat := [173, 168, 166, 498, 499, 28, 501, 500, 171, 445, 326, 40, 327]
def xk_q44 : List Nat := []
theorem xk_w44 : xi_lk xk_p44 = xi_needm xm_44 xt_44 := by decide +kernel
theorem xk_v44 : xi_lkn xk_q44 = xi_needmN xm_44 xt_44 := by decide +kernel
theorem xk_44 : xi_okM xm_44 xt_44 := xi_okM_of xk_n44 xk_w44 (by decide +kernel) (by decide +kernel) xk_v44 (by decide +kernel)
-- 45: NoisyCodes$Mender.nearestCodeword(LNoisyCodes$BlockCode;II)I
theorem xk_n45 : xi_numm xm_45 xt_45 = true := by decide +kernel
def xk_p45 : List Nat := [502, 503, 26, 505, 504, 155, 506, 484, 26, 486, 485, 156, 507, 311, 39, 312, 154, 155, 156, 508, 510, 539, 30, 540, 538, 544, 31, 545, 543, 512, 32, 513, 511, 555, 557, 28, 558, 11, 565, 326, 40, 327, 502, 503, 26, 505, 504]
def xk_q45 : List Nat := [6, 5, 6, 20, 5, 6]
theorem xk_w45 : xi_lk xk_p45 = xi_needm xm_45 xt_45 := by decide +kernel
theorem xk_v45 : xi_lkn xk_q45 = xi_needmN xm_45 xt_45 := by decide +kernel
theorem xk_45 : xi_okM xm_45 xt_45 := xi_okM_of xk_n45 xk_w45 (by decide +kernel) (by decide +kernel) xk_v45 (by decide +kernel)
-- 46: NoisyCodes$BlockCode.isCodeword(I)Z
theorem xk_n46 : xi_numm xm_46 xt_46 = true := by decide +kernel
def xk_p46 : List Nat := [441, 443, 26, 444, 6]
def xk_q46 : List Nat := []
theorem xk_w46 : xi_lk xk_p46 = xi_needm xm_46 xt_46 := by decide +kernel
theorem xk_v46 : xi_lkn xk_q46 = xi_needmN xm_46 xt_46 := by decide +kernel
theorem xk_46 : xi_okM xm_46 xt_46 := xi_okM_of xk_n46 xk_w46 (by decide +kernel) (by decide +kernel) xk_v46 (by decide +kernel)
-- 47: NoisyCodes$Division.locate(LNoisyCodes$Field;[II[I)V
theorem xk_n47 : xi_numm xm_47 xt_47 = true := by decide +kernel
def xk_p47 : List Nat := [514, 516, 32, 517, 10, 141, 142, 143, 144, 522, 523, 32, 524, 525, 526, 32, 527, 528, 529, 27, 531, 530]
def xk_q47 : List Nat := []
theorem xk_w47 : xi_lk xk_p47 = xi_needm xm_47 xt_47 := by decide +kernel
theorem xk_v47 : xi_lkn xk_q47 = xi_needmN xm_47 xt_47 := by decide +kernel
theorem xk_47 : xi_okM xm_47 xt_47 := xi_okM_of xk_n47 xk_w47 (by decide +kernel) (by decide +kernel) xk_v47 (by decide +kernel)
-- 48: NoisyCodes$Division.fillRows([II)V
theorem xk_n48 : xi_numm xm_48 xt_48 = true := by decide +kernel
def xk_p48 : List Nat := [141, 518, 311, 39, 312, 142, 518, 311, 39, 312, 143, 518, 311, 39, 312, 144, 518, 311, 39, 312, 141, 142, 519, 521, 520, 43, 144]
def xk_q48 : List Nat := []
theorem xk_w48 : xi_lk xk_p48 = xi_needm xm_48 xt_48 := by decide +kernel
theorem xk_v48 : xi_lkn xk_q48 = xi_needmN xm_48 xt_48 := by decide +kernel
theorem xk_48 : xi_okM xm_48 xt_48 := xi_okM_of xk_n48 xk_w48 (by decide +kernel) (by decide +kernel) xk_v48 (by decide +kernel)
-- 49: NoisyCodes$Division.degreeOf([I)I
theorem xk_n49 : xi_numm xm_49 xt_49 = true := by decide +kernel
def xk_p49 : List Nat := []
def xk_q49 : List Nat := []
theorem xk_w49 : xi_lk xk_p49 = xi_needm xm_49 xt_49 := by decide +kernel
theorem xk_v49 : xi_lkn xk_q49 = xi_needmN xm_49 xt_49 := by decide +kernel
theorem xk_49 : xi_okM xm_49 xt_49 := xi_okM_of xk_n49 xk_w49 (by decide +kernel) (by decide +kernel) xk_v49 (by decide +kernel)
-- 50: NoisyCodes$Division.divide(LNoisyCodes$Field;[I[I[I[I)V
theorem xk_n50 : xi_numm xm_50 xt_50 = true := by decide +kernel
def xk_p50 : List Nat := [522, 523, 32, 524, 528, 529, 27, 531, 530, 532, 533, 535, 29, 536, 532, 533, 535, 29, 536]
def xk_q50 : List Nat := []
theorem xk_w50 : xi_lk xk_p50 = xi_needm xm_50 xt_50 := by decide +kernel
theorem xk_v50 : xi_lkn xk_q50 = xi_needmN xm_50 xt_50 := by decide +kernel
theorem xk_50 : xi_okM xm_50 xt_50 := xi_okM_of xk_n50 xk_w50 (by decide +kernel) (by decide +kernel) xk_v50 (by decide +kernel)
-- 51: NoisyCodes$Field.quotient(II)I
theorem xk_n51 : xi_numm xm_51 xt_51 = true := by decide +kernel
def xk_p51 : List Nat := [64, 65, 67, 65, 67]
def xk_q51 : List Nat := []
theorem xk_w51 : xi_lk xk_p51 = xi_needm xm_51 xt_51 := by decide +kernel
theorem xk_v51 : xi_lkn xk_q51 = xi_needmN xm_51 xt_51 := by decide +kernel
theorem xk_51 : xi_okM xm_51 xt_51 := xi_okM_of xk_n51 xk_w51 (by decide +kernel) (by decide +kernel) xk_v51 (by decide +kernel)
-- 52: NoisyCodes$Way.addShifted(LNoisyCodes$Field;[I[III)V
theorem xk_n52 : xi_numm xm_52 xt_52 = true := by decide +kernel
def xk_p52 : List Nat := [537, 322, 27, 324, 323]
def xk_q52 : List Nat := []
theorem xk_w52 : xi_lk xk_p52 = xi_needm xm_52 xt_52 := by decide +kernel
theorem xk_v52 : xi_lkn xk_q52 = xi_needmN xm_52 xt_52 := by decide +kernel
theorem xk_52 : xi_okM xm_52 xt_52 := xi_okM_of xk_n52 xk_w52 (by decide +kernel) (by decide +kernel) xk_v52 (by decide +kernel)
-- 53: NoisyCodes$Formulas.locate(LNoisyCodes$Field;[II[I)V
theorem xk_n53 : xi_numm xm_53 xt_53 = true := by decide +kernel
def xk_p53 : List Nat := [541, 322, 27, 324, 323, 541, 322, 27, 324, 323, 542, 529, 27, 531, 530, 541, 322, 27, 324, 323, 542, 529, 27, 531, 530, 541, 322, 27, 324, 323]
def xk_q53 : List Nat := []
theorem xk_w53 : xi_lk xk_p53 = xi_needm xm_53 xt_53 := by decide +kernel
theorem xk_v53 : xi_lkn xk_q53 = xi_needmN xm_53 xt_53 := by decide +kernel
theorem xk_53 : xi_okM xm_53 xt_53 := xi_okM_of xk_n53 xk_w53 (by decide +kernel) (by decide +kernel) xk_v53 (by decide +kernel)

/-! the numbers of the codes, once more -/
theorem kj_i0 : ki 0 = nI 0 := by decide
theorem kj_l0 : (0 : Int32) = nI 0 := by decide
theorem kj_i1 : ki 1 = nI 1 := by decide
theorem kj_l1 : (1 : Int32) = nI 1 := by decide
theorem kj_i2 : ki 2 = nI 2 := by decide
theorem kj_l2 : (2 : Int32) = nI 2 := by decide
theorem kj_i3 : ki 3 = nI 3 := by decide
theorem kj_l3 : (3 : Int32) = nI 3 := by decide
theorem kj_i4 : ki 4 = nI 4 := by decide
theorem kj_l4 : (4 : Int32) = nI 4 := by decide
theorem kj_i5 : ki 5 = nI 5 := by decide
theorem kj_l5 : (5 : Int32) = nI 5 := by decide
theorem kj_i6 : ki 6 = nI 6 := by decide
theorem kj_l6 : (6 : Int32) = nI 6 := by decide
theorem kj_i7 : ki 7 = nI 7 := by decide
theorem kj_l7 : (7 : Int32) = nI 7 := by decide
theorem kj_i8 : ki 8 = nI 8 := by decide
theorem kj_l8 : (8 : Int32) = nI 8 := by decide
theorem kj_i9 : ki 9 = nI 9 := by decide
theorem kj_l9 : (9 : Int32) = nI 9 := by decide
theorem kj_i10 : ki 10 = nI 10 := by decide
theorem kj_l10 : (10 : Int32) = nI 10 := by decide
theorem kj_i11 : ki 11 = nI 11 := by decide
theorem kj_l11 : (11 : Int32) = nI 11 := by decide
theorem kj_i12 : ki 12 = nI 12 := by decide
theorem kj_l12 : (12 : Int32) = nI 12 := by decide
theorem kj_i13 : ki 13 = nI 13 := by decide
theorem kj_l13 : (13 : Int32) = nI 13 := by decide
theorem kj_i14 : ki 14 = nI 14 := by decide
theorem kj_l14 : (14 : Int32) = nI 14 := by decide
theorem kj_i15 : ki 15 = nI 15 := by decide
theorem kj_l15 : (15 : Int32) = nI 15 := by decide
theorem kj_i16 : ki 16 = nI 16 := by decide
theorem kj_l16 : (16 : Int32) = nI 16 := by decide
def m1_ : Int32 := -1
theorem kk_n1 : -nI 1 = m1_ := by decide
theorem kk_m2 : ki (-1) = m1_ := by decide
theorem kk_m3 : (-1 : Int32) = m1_ := by decide

section MY
variable {l : Nat → Nat} {M : Nat → Nat → Int32} {h : mm_S} {i k j b n : Nat} {v : Int32}
theorem qS_in {n : Nat} {x : Int32} (hx : S_ n x = true) : qrTear_ n x = none := by simp [qrTear_, hx]
theorem qS_out {n : Nat} {x : Int32} (hx : ¬ S_ n x = true) : qrTear_ n x = some (nI 2, x) := by simp [qrTear_, hx]
theorem n10 : ¬ nI 1 = nI 0 := by decide
theorem n1f : fx_nar .boolean (nI 1) = some (nI 1) := by decide
theorem nlt {x : Int32} : ¬ x < nI 0 ↔ nI 0 ≤ x := Int32.not_lt
theorem m_nHalve (hl : ov_L 11 l h) (hT : M 1 0 = nI n) (hn : n ≤ 10) (x : Int32) : F_X6_isRefusedHalve (mv_ l M h) (l 0) x = some (mR_ l M h (qrHalve_ (M 1) n x)) := by
  unfold F_X6_isRefusedHalve qrHalve_
  simp only [mv_is hl, mr_0 hl, Option.bind_some, kk_m2, kk_m3, kk_n1, kj_i0, kj_l0, kj_i1, kj_l1, kj_i2, kj_l2, kj_i3, kj_l3, kj_i4, kj_l4, kj_i5, kj_l5, kj_i6, kj_l6, kj_i7, kj_l7, kj_i8, kj_l8, kj_i9, kj_l9, kj_i10, kj_l10, kj_i11, kj_l11, kj_i12, kj_l12, kj_i13, kj_l13, kj_i14, kj_l14, kj_i15, kj_l15, kj_i16, kj_l16, kk_b6, kk_b7, kk_b8, kk_b9, kk_b10, kk_b11, kk_b12, kk_b13, kk_b14, kk_b15, kk_b16, kk_b20, kk_b40, nI_add, m_in, m_isL, m_isG, bI_n, ne_eq, Decidable.not_not, m_S hl hT hn, m_at hl (show 0 < 110 by decide), hT, mW_1, m_noS hl hT hn]
  by_cases hx : S_ n x = true
  · obtain ⟨j, hj, rfl⟩ := S_of hn hx
    have hj10 : j < 10 := by omega
    simp only [qS_in hx, mv_is hl, mr_0 hl, Option.bind_some, kk_m2, kk_m3, kk_n1, kj_i0, kj_l0, kj_i1, kj_l1, kj_i2, kj_l2, kj_i3, kj_l3, kj_i4, kj_l4, kj_i5, kj_l5, kj_i6, kj_l6, kj_i7, kj_l7, kj_i8, kj_l8, kj_i9, kj_l9, kj_i10, kj_l10, kj_i11, kj_l11, kj_i12, kj_l12, kj_i13, kj_l13, kj_i14, kj_l14, kj_i15, kj_l15, kj_i16, kj_l16, kk_b6, kk_b7, kk_b8, kk_b9, kk_b10, kk_b11, kk_b12, kk_b13, kk_b14, kk_b15, kk_b16, kk_b20, kk_b40, nI_add, m_in, m_isL, m_isG, bI_n, ne_eq, Decidable.not_not, m_S hl hT hn, m_at hl (show 0 < 110 by decide), hT, mW_1, m_noG hl, m_noL hl, m_noS hl hT hn, m_bad hl, mR_, m_sv hl (show 34 + 7 * j + 4 < 110 by omega), m_sv hl (show 34 + 7 * j + 2 < 110 by omega), cl_nI (show j < 2 ^ 31 by omega)]
    by_cases h3 : sT_ (M 1) j 4 = nI 3 <;> by_cases h4 : sT_ (M 1) j 2 = nI 1 <;> simp [h3, h4, hx, n10]
  · simp [hx, qS_out hx, mR_, n10]
theorem m_nBuild (hl : ov_L 11 l h) (hT : M 1 0 = nI n) (hn : n ≤ 10) (I : I_ (M 1) n) (a b s : Int32) : F_X6_isRefusedBuild (mv_ l M h) (l 0) a b s = some (mR_ l M h (qrBuild_ (M 1) n a b s)) := by
  unfold F_X6_isRefusedBuild qrBuild_
  simp only [mv_is hl, mr_0 hl, Option.bind_some, kk_m2, kk_m3, kk_n1, kj_i0, kj_l0, kj_i1, kj_l1, kj_i2, kj_l2, kj_i3, kj_l3, kj_i4, kj_l4, kj_i5, kj_l5, kj_i6, kj_l6, kj_i7, kj_l7, kj_i8, kj_l8, kj_i9, kj_l9, kj_i10, kj_l10, kj_i11, kj_l11, kj_i12, kj_l12, kj_i13, kj_l13, kj_i14, kj_l14, kj_i15, kj_l15, kj_i16, kj_l16, kk_b6, kk_b7, kk_b8, kk_b9, kk_b10, kk_b11, kk_b12, kk_b13, kk_b14, kk_b15, kk_b16, kk_b20, kk_b40, nI_add, m_in, m_isL, m_isG, bI_n, ne_eq, Decidable.not_not, m_S hl hT hn, m_at hl (show 0 < 110 by decide), hT, mW_1, m_noL hl]
  by_cases ha : In_ (nI 0) (nI 7) a = true
  · by_cases hb : In_ (nI 0) (nI 7) b = true
    · simp only [ha, hb, if_true, mv_is hl, mr_0 hl, Option.bind_some, kk_m2, kk_m3, kk_n1, kj_i0, kj_l0, kj_i1, kj_l1, kj_i2, kj_l2, kj_i3, kj_l3, kj_i4, kj_l4, kj_i5, kj_l5, kj_i6, kj_l6, kj_i7, kj_l7, kj_i8, kj_l8, kj_i9, kj_l9, kj_i10, kj_l10, kj_i11, kj_l11, kj_i12, kj_l12, kj_i13, kj_l13, kj_i14, kj_l14, kj_i15, kj_l15, kj_i16, kj_l16, kk_b6, kk_b7, kk_b8, kk_b9, kk_b10, kk_b11, kk_b12, kk_b13, kk_b14, kk_b15, kk_b16, kk_b20, kk_b40, nI_add, m_in, m_isL, m_isG, bI_n, ne_eq, Decidable.not_not, m_S hl hT hn, m_at hl (show 0 < 110 by decide), hT, mW_1, m_noG hl, m_noL hl, m_noS hl hT hn, m_bad hl, mR_, m_jn hl hT hn I]
      by_cases hs : In_ (nI 1) (nI 40) s = true
      · by_cases h1 : a = b
        · simp [ha, hb, hs, h1, n10, n1f, mv_is hl, mr_0 hl, Option.bind_some, kk_m2, kk_m3, kk_n1, kj_i0, kj_l0, kj_i1, kj_l1, kj_i2, kj_l2, kj_i3, kj_l3, kj_i4, kj_l4, kj_i5, kj_l5, kj_i6, kj_l6, kj_i7, kj_l7, kj_i8, kj_l8, kj_i9, kj_l9, kj_i10, kj_l10, kj_i11, kj_l11, kj_i12, kj_l12, kj_i13, kj_l13, kj_i14, kj_l14, kj_i15, kj_l15, kj_i16, kj_l16, kk_b6, kk_b7, kk_b8, kk_b9, kk_b10, kk_b11, kk_b12, kk_b13, kk_b14, kk_b15, kk_b16, kk_b20, kk_b40, nI_add, m_in, m_isL, m_isG, bI_n, ne_eq, Decidable.not_not, m_S hl hT hn, m_at hl (show 0 < 110 by decide), hT, mW_1, m_noG hl, m_noL hl, m_noS hl hT hn, m_bad hl, mR_]
        · cases e : qJ_ (M 1) n a b with
          | some j =>
            have hj : j < n := List.mem_range.mp (List.mem_of_find?_eq_some e)
            have h2 : ¬ nI j < nI 0 := nI_nlt (Nat.zero_le _) (by omega)
            simp [ha, hb, hs, h1, n10, n1f, oI_, h2, mv_is hl, mr_0 hl, Option.bind_some, kk_m2, kk_m3, kk_n1, kj_i0, kj_l0, kj_i1, kj_l1, kj_i2, kj_l2, kj_i3, kj_l3, kj_i4, kj_l4, kj_i5, kj_l5, kj_i6, kj_l6, kj_i7, kj_l7, kj_i8, kj_l8, kj_i9, kj_l9, kj_i10, kj_l10, kj_i11, kj_l11, kj_i12, kj_l12, kj_i13, kj_l13, kj_i14, kj_l14, kj_i15, kj_l15, kj_i16, kj_l16, kk_b6, kk_b7, kk_b8, kk_b9, kk_b10, kk_b11, kk_b12, kk_b13, kk_b14, kk_b15, kk_b16, kk_b20, kk_b40, nI_add, m_in, m_isL, m_isG, bI_n, ne_eq, Decidable.not_not, m_S hl hT hn, m_at hl (show 0 < 110 by decide), hT, mW_1, m_noG hl, m_noL hl, m_noS hl hT hn, m_bad hl, mR_, m_jn hl hT hn I, e]
          | none =>
            have h2 : m1_ < nI 0 := by decide
            have h3 : nI n = nI 10 ↔ n = 10 := nI_eq (by omega) (by decide)
            by_cases h4 : n = 10
            · simp [ha, hb, hs, h1, n10, n1f, oI_, h2, h4, mv_is hl, mr_0 hl, Option.bind_some, kk_m2, kk_m3, kk_n1, kj_i0, kj_l0, kj_i1, kj_l1, kj_i2, kj_l2, kj_i3, kj_l3, kj_i4, kj_l4, kj_i5, kj_l5, kj_i6, kj_l6, kj_i7, kj_l7, kj_i8, kj_l8, kj_i9, kj_l9, kj_i10, kj_l10, kj_i11, kj_l11, kj_i12, kj_l12, kj_i13, kj_l13, kj_i14, kj_l14, kj_i15, kj_l15, kj_i16, kj_l16, kk_b6, kk_b7, kk_b8, kk_b9, kk_b10, kk_b11, kk_b12, kk_b13, kk_b14, kk_b15, kk_b16, kk_b20, kk_b40, nI_add, m_in, m_isL, m_isG, bI_n, ne_eq, Decidable.not_not, m_S hl hT hn, m_at hl (show 0 < 110 by decide), hT, mW_1, m_noG hl, m_noL hl, m_noS hl hT hn, m_bad hl, mR_, m_jn hl hT hn I, e]
            · simp [ha, hb, hs, h1, n10, n1f, oI_, h2, h3, h4, mv_is hl, mr_0 hl, Option.bind_some, kk_m2, kk_m3, kk_n1, kj_i0, kj_l0, kj_i1, kj_l1, kj_i2, kj_l2, kj_i3, kj_l3, kj_i4, kj_l4, kj_i5, kj_l5, kj_i6, kj_l6, kj_i7, kj_l7, kj_i8, kj_l8, kj_i9, kj_l9, kj_i10, kj_l10, kj_i11, kj_l11, kj_i12, kj_l12, kj_i13, kj_l13, kj_i14, kj_l14, kj_i15, kj_l15, kj_i16, kj_l16, kk_b6, kk_b7, kk_b8, kk_b9, kk_b10, kk_b11, kk_b12, kk_b13, kk_b14, kk_b15, kk_b16, kk_b20, kk_b40, nI_add, m_in, m_isL, m_isG, bI_n, ne_eq, Decidable.not_not, m_S hl hT hn, m_at hl (show 0 < 110 by decide), hT, mW_1, m_noG hl, m_noL hl, m_noS hl hT hn, m_bad hl, mR_, m_jn hl hT hn I, e]
      · simp [ha, hb, hs, n10, n1f, mv_is hl, mr_0 hl, Option.bind_some, kk_m2, kk_m3, kk_n1, kj_i0, kj_l0, kj_i1, kj_l1, kj_i2, kj_l2, kj_i3, kj_l3, kj_i4, kj_l4, kj_i5, kj_l5, kj_i6, kj_l6, kj_i7, kj_l7, kj_i8, kj_l8, kj_i9, kj_l9, kj_i10, kj_l10, kj_i11, kj_l11, kj_i12, kj_l12, kj_i13, kj_l13, kj_i14, kj_l14, kj_i15, kj_l15, kj_i16, kj_l16, kk_b6, kk_b7, kk_b8, kk_b9, kk_b10, kk_b11, kk_b12, kk_b13, kk_b14, kk_b15, kk_b16, kk_b20, kk_b40, nI_add, m_in, m_isL, m_isG, bI_n, ne_eq, Decidable.not_not, m_S hl hT hn, m_at hl (show 0 < 110 by decide), hT, mW_1, m_noG hl, m_noL hl, m_noS hl hT hn, m_bad hl, mR_]
    · simp [ha, hb, mv_is hl, mr_0 hl, Option.bind_some, kk_m2, kk_m3, kk_n1, kj_i0, kj_l0, kj_i1, kj_l1, kj_i2, kj_l2, kj_i3, kj_l3, kj_i4, kj_l4, kj_i5, kj_l5, kj_i6, kj_l6, kj_i7, kj_l7, kj_i8, kj_l8, kj_i9, kj_l9, kj_i10, kj_l10, kj_i11, kj_l11, kj_i12, kj_l12, kj_i13, kj_l13, kj_i14, kj_l14, kj_i15, kj_l15, kj_i16, kj_l16, kk_b6, kk_b7, kk_b8, kk_b9, kk_b10, kk_b11, kk_b12, kk_b13, kk_b14, kk_b15, kk_b16, kk_b20, kk_b40, nI_add, m_in, m_isL, m_isG, bI_n, ne_eq, Decidable.not_not, m_S hl hT hn, m_at hl (show 0 < 110 by decide), hT, mW_1, m_noG hl, m_noL hl, m_noS hl hT hn, m_bad hl, mR_, n10]
  · simp [ha, mR_, n10]
theorem qG_nG {n : Nat} {a x : Int32} {k : Option (Int32 × Int32)} (h : ¬ In_ (nI 0) (nI 1) a = true) : qG_ n a x k = some (nI 2, a) := by simp [qG_, h]
theorem qG_nS {n : Nat} {a x : Int32} {k : Option (Int32 × Int32)} (h : In_ (nI 0) (nI 1) a = true) (h2 : ¬ S_ n x = true) : qG_ n a x k = some (nI 2, x) := by simp [qG_, h, h2]
theorem m_nLease (hl : ov_L 11 l h) (hT : M 1 0 = nI n) (hn : n ≤ 10) (a x d : Int32) : F_X6_isRefusedLease (mv_ l M h) (l 0) a x d = some (mR_ l M h (qrLease_ (M 1) n a x d)) := by
  unfold F_X6_isRefusedLease qrLease_
  simp only [mv_is hl, mr_0 hl, Option.bind_some, kk_m2, kk_m3, kk_n1, kj_i0, kj_l0, kj_i1, kj_l1, kj_i2, kj_l2, kj_i3, kj_l3, kj_i4, kj_l4, kj_i5, kj_l5, kj_i6, kj_l6, kj_i7, kj_l7, kj_i8, kj_l8, kj_i9, kj_l9, kj_i10, kj_l10, kj_i11, kj_l11, kj_i12, kj_l12, kj_i13, kj_l13, kj_i14, kj_l14, kj_i15, kj_l15, kj_i16, kj_l16, kk_b6, kk_b7, kk_b8, kk_b9, kk_b10, kk_b11, kk_b12, kk_b13, kk_b14, kk_b15, kk_b16, kk_b20, kk_b40, nI_add, m_in, m_isL, m_isG, bI_n, ne_eq, Decidable.not_not, m_S hl hT hn, m_at hl (show 0 < 110 by decide), hT, mW_1, m_noG hl]
  by_cases ha : In_ (nI 0) (nI 1) a = true
  · simp only [ha, if_true, mv_is hl, mr_0 hl, Option.bind_some, kk_m2, kk_m3, kk_n1, kj_i0, kj_l0, kj_i1, kj_l1, kj_i2, kj_l2, kj_i3, kj_l3, kj_i4, kj_l4, kj_i5, kj_l5, kj_i6, kj_l6, kj_i7, kj_l7, kj_i8, kj_l8, kj_i9, kj_l9, kj_i10, kj_l10, kj_i11, kj_l11, kj_i12, kj_l12, kj_i13, kj_l13, kj_i14, kj_l14, kj_i15, kj_l15, kj_i16, kj_l16, kk_b6, kk_b7, kk_b8, kk_b9, kk_b10, kk_b11, kk_b12, kk_b13, kk_b14, kk_b15, kk_b16, kk_b20, kk_b40, nI_add, m_in, m_isL, m_isG, bI_n, ne_eq, Decidable.not_not, m_S hl hT hn, m_at hl (show 0 < 110 by decide), hT, mW_1, m_noG hl, m_noL hl, m_noS hl hT hn, m_bad hl, mR_]
    by_cases hx : S_ n x = true
    · obtain ⟨j, hj, rfl⟩ := S_of hn hx
      simp only [qS_in hx, qG_in ha hx, mv_is hl, mr_0 hl, Option.bind_some, kk_m2, kk_m3, kk_n1, kj_i0, kj_l0, kj_i1, kj_l1, kj_i2, kj_l2, kj_i3, kj_l3, kj_i4, kj_l4, kj_i5, kj_l5, kj_i6, kj_l6, kj_i7, kj_l7, kj_i8, kj_l8, kj_i9, kj_l9, kj_i10, kj_l10, kj_i11, kj_l11, kj_i12, kj_l12, kj_i13, kj_l13, kj_i14, kj_l14, kj_i15, kj_l15, kj_i16, kj_l16, kk_b6, kk_b7, kk_b8, kk_b9, kk_b10, kk_b11, kk_b12, kk_b13, kk_b14, kk_b15, kk_b16, kk_b20, kk_b40, nI_add, m_in, m_isL, m_isG, bI_n, ne_eq, Decidable.not_not, m_S hl hT hn, m_at hl (show 0 < 110 by decide), hT, mW_1, m_noG hl, m_noL hl, m_noS hl hT hn, m_bad hl, mR_, m_sv hl (show 34 + 7 * j + 5 < 110 by omega), m_sv hl (show 34 + 7 * j + 6 < 110 by omega), cl_nI (show j < 2 ^ 31 by omega)]
      by_cases hd : In_ (nI 1) (nI 9) d = true
      · by_cases h5 : sT_ (M 1) j 5 < nI 0
        · have h6 : ¬ nI 0 ≤ sT_ (M 1) j 5 := Int32.not_le.mpr h5
          simp only [hd, h5, h6, if_true, if_false, not_true_eq_false]
        · have h6 : nI 0 ≤ sT_ (M 1) j 5 := Int32.not_lt.mp h5
          simp only [hd, h5, h6, if_true, if_false, not_true_eq_false, n10]
      · simp [hd, n10, n1f]
    · simp [hx, ha, qS_out hx, qG_nS ha hx, mR_, n10]
  · simp [ha, mR_, n10, qG_nG ha]
theorem m_nClimb (hl : ov_L 11 l h) (hT : M 1 0 = nI n) (hn : n ≤ 10) (I : I_ (M 1) n) (a x : Int32) : F_X6_isRefusedClimb (mv_ l M h) (l 0) a x = some (mR_ l M h (qrClimb_ (M 1) n a x)) := by
  unfold F_X6_isRefusedClimb qrClimb_
  simp only [mv_is hl, mr_0 hl, Option.bind_some, kk_m2, kk_m3, kk_n1, kj_i0, kj_l0, kj_i1, kj_l1, kj_i2, kj_l2, kj_i3, kj_l3, kj_i4, kj_l4, kj_i5, kj_l5, kj_i6, kj_l6, kj_i7, kj_l7, kj_i8, kj_l8, kj_i9, kj_l9, kj_i10, kj_l10, kj_i11, kj_l11, kj_i12, kj_l12, kj_i13, kj_l13, kj_i14, kj_l14, kj_i15, kj_l15, kj_i16, kj_l16, kk_b6, kk_b7, kk_b8, kk_b9, kk_b10, kk_b11, kk_b12, kk_b13, kk_b14, kk_b15, kk_b16, kk_b20, kk_b40, nI_add, m_in, m_isL, m_isG, bI_n, ne_eq, Decidable.not_not, m_S hl hT hn, m_at hl (show 0 < 110 by decide), hT, mW_1, m_noG hl]
  by_cases ha : In_ (nI 0) (nI 1) a = true
  · simp only [ha, if_true, mv_is hl, mr_0 hl, Option.bind_some, kk_m2, kk_m3, kk_n1, kj_i0, kj_l0, kj_i1, kj_l1, kj_i2, kj_l2, kj_i3, kj_l3, kj_i4, kj_l4, kj_i5, kj_l5, kj_i6, kj_l6, kj_i7, kj_l7, kj_i8, kj_l8, kj_i9, kj_l9, kj_i10, kj_l10, kj_i11, kj_l11, kj_i12, kj_l12, kj_i13, kj_l13, kj_i14, kj_l14, kj_i15, kj_l15, kj_i16, kj_l16, kk_b6, kk_b7, kk_b8, kk_b9, kk_b10, kk_b11, kk_b12, kk_b13, kk_b14, kk_b15, kk_b16, kk_b20, kk_b40, nI_add, m_in, m_isL, m_isG, bI_n, ne_eq, Decidable.not_not, m_S hl hT hn, m_at hl (show 0 < 110 by decide), hT, mW_1, m_noG hl, m_noL hl, m_noS hl hT hn, m_bad hl, mR_]
    by_cases hx : S_ n x = true
    · obtain ⟨j, hj, rfl⟩ := S_of hn hx
      obtain ⟨b, hb, rfl⟩ := In_of (by decide) ha
      simp only [qS_in hx, qG_in ha hx, mv_is hl, mr_0 hl, Option.bind_some, kk_m2, kk_m3, kk_n1, kj_i0, kj_l0, kj_i1, kj_l1, kj_i2, kj_l2, kj_i3, kj_l3, kj_i4, kj_l4, kj_i5, kj_l5, kj_i6, kj_l6, kj_i7, kj_l7, kj_i8, kj_l8, kj_i9, kj_l9, kj_i10, kj_l10, kj_i11, kj_l11, kj_i12, kj_l12, kj_i13, kj_l13, kj_i14, kj_l14, kj_i15, kj_l15, kj_i16, kj_l16, kk_b6, kk_b7, kk_b8, kk_b9, kk_b10, kk_b11, kk_b12, kk_b13, kk_b14, kk_b15, kk_b16, kk_b20, kk_b40, nI_add, m_in, m_isL, m_isG, bI_n, ne_eq, Decidable.not_not, m_S hl hT hn, m_at hl (show 0 < 110 by decide), hT, mW_1, m_noG hl, m_noL hl, m_noS hl hT hn, m_bad hl, mR_, m_gv hl (show 12 + 5 * b + 1 < 110 by omega), m_to hl (show j < 10 by omega), cl_nI (show j < 2 ^ 31 by omega), cl_nI (show b < 2 ^ 31 by omega)]
      have ho := oth_nI I hj (gT_ (M 1) b 1)
      have ho2 := oc_lt I hj (gT_ (M 1) b 1)
      by_cases he : E_ (sT_ (M 1) j) (gT_ (M 1) b 1) = true
      · simp only [m_ac hl (show j < 10 by omega) he, ho, mv_is hl, mr_0 hl, Option.bind_some, kk_m2, kk_m3, kk_n1, kj_i0, kj_l0, kj_i1, kj_l1, kj_i2, kj_l2, kj_i3, kj_l3, kj_i4, kj_l4, kj_i5, kj_l5, kj_i6, kj_l6, kj_i7, kj_l7, kj_i8, kj_l8, kj_i9, kj_l9, kj_i10, kj_l10, kj_i11, kj_l11, kj_i12, kj_l12, kj_i13, kj_l13, kj_i14, kj_l14, kj_i15, kj_l15, kj_i16, kj_l16, kk_b6, kk_b7, kk_b8, kk_b9, kk_b10, kk_b11, kk_b12, kk_b13, kk_b14, kk_b15, kk_b16, kk_b20, kk_b40, nI_add, m_in, m_isL, m_isG, bI_n, ne_eq, Decidable.not_not, m_S hl hT hn, m_at hl (show 0 < 110 by decide), hT, mW_1, m_ow hl ho2, cl_nI (show oc_ (M 1) (gT_ (M 1) b 1) j < 2 ^ 31 by omega)]
        by_cases h2 : oT_ (M 1) (oc_ (M 1) (gT_ (M 1) b 1) j) = nI 2 <;> simp [he, h2, n10]
      · simp [he, n10, n1f]
    · simp [hx, ha, qS_out hx, qG_nS ha hx, mR_, n10]
  · simp [ha, mR_, n10, qG_nG ha]
theorem m_nLevy (hl : ov_L 11 l h) (hT : M 1 0 = nI n) (hn : n ≤ 10) (I : I_ (M 1) n) (a x : Int32) : F_X6_isRefusedLevy (mv_ l M h) (l 0) a x = some (mR_ l M h (qrLevy_ (M 1) n a x)) := by
  unfold F_X6_isRefusedLevy F_X6_isRefusedLevy_B54 qrLevy_
  simp only [mv_is hl, mr_0 hl, Option.bind_some, kk_m2, kk_m3, kk_n1, kj_i0, kj_l0, kj_i1, kj_l1, kj_i2, kj_l2, kj_i3, kj_l3, kj_i4, kj_l4, kj_i5, kj_l5, kj_i6, kj_l6, kj_i7, kj_l7, kj_i8, kj_l8, kj_i9, kj_l9, kj_i10, kj_l10, kj_i11, kj_l11, kj_i12, kj_l12, kj_i13, kj_l13, kj_i14, kj_l14, kj_i15, kj_l15, kj_i16, kj_l16, kk_b6, kk_b7, kk_b8, kk_b9, kk_b10, kk_b11, kk_b12, kk_b13, kk_b14, kk_b15, kk_b16, kk_b20, kk_b40, nI_add, m_in, m_isL, m_isG, bI_n, ne_eq, Decidable.not_not, m_S hl hT hn, m_at hl (show 0 < 110 by decide), hT, mW_1, m_noG hl]
  by_cases ha : In_ (nI 0) (nI 1) a = true
  · simp only [ha, if_true, mv_is hl, mr_0 hl, Option.bind_some, kk_m2, kk_m3, kk_n1, kj_i0, kj_l0, kj_i1, kj_l1, kj_i2, kj_l2, kj_i3, kj_l3, kj_i4, kj_l4, kj_i5, kj_l5, kj_i6, kj_l6, kj_i7, kj_l7, kj_i8, kj_l8, kj_i9, kj_l9, kj_i10, kj_l10, kj_i11, kj_l11, kj_i12, kj_l12, kj_i13, kj_l13, kj_i14, kj_l14, kj_i15, kj_l15, kj_i16, kj_l16, kk_b6, kk_b7, kk_b8, kk_b9, kk_b10, kk_b11, kk_b12, kk_b13, kk_b14, kk_b15, kk_b16, kk_b20, kk_b40, nI_add, m_in, m_isL, m_isG, bI_n, ne_eq, Decidable.not_not, m_S hl hT hn, m_at hl (show 0 < 110 by decide), hT, mW_1, m_noG hl, m_noL hl, m_noS hl hT hn, m_bad hl, mR_]
    by_cases hx : S_ n x = true
    · obtain ⟨j, hj, rfl⟩ := S_of hn hx
      obtain ⟨b, hb, rfl⟩ := In_of (by decide) ha
      obtain ⟨p, q, h1, h2, ep, eq⟩ := St_lo (I.2.2.2.2.1 j hj)
      simp only [qS_in hx, qG_in ha hx, mv_is hl, mr_0 hl, Option.bind_some, kk_m2, kk_m3, kk_n1, kj_i0, kj_l0, kj_i1, kj_l1, kj_i2, kj_l2, kj_i3, kj_l3, kj_i4, kj_l4, kj_i5, kj_l5, kj_i6, kj_l6, kj_i7, kj_l7, kj_i8, kj_l8, kj_i9, kj_l9, kj_i10, kj_l10, kj_i11, kj_l11, kj_i12, kj_l12, kj_i13, kj_l13, kj_i14, kj_l14, kj_i15, kj_l15, kj_i16, kj_l16, kk_b6, kk_b7, kk_b8, kk_b9, kk_b10, kk_b11, kk_b12, kk_b13, kk_b14, kk_b15, kk_b16, kk_b20, kk_b40, nI_add, m_in, m_isL, m_isG, bI_n, ne_eq, Decidable.not_not, m_S hl hT hn, m_at hl (show 0 < 110 by decide), hT, mW_1, m_noG hl, m_noL hl, m_noS hl hT hn, m_bad hl, mR_, m_sv hl (show 34 + 7 * j + 0 < 110 by omega), m_sv hl (show 34 + 7 * j + 1 < 110 by omega), m_sv hl (show 34 + 7 * j + 2 < 110 by omega), m_sv hl (show 34 + 7 * j + 3 < 110 by omega), ep, eq, m_ow hl (show p < 8 by omega), m_ow hl (show q < 8 by omega), cl_nI (show j < 2 ^ 31 by omega), cl_nI (show p < 2 ^ 31 by omega), cl_nI (show q < 2 ^ 31 by omega)]
      by_cases h3 : oT_ (M 1) p = nI b <;> by_cases h4 : oT_ (M 1) q = nI b <;> by_cases h5 : sT_ (M 1) j 3 = nI 0 <;> simp [h3, h4, h5, n10, n1f]
    · simp [hx, ha, qS_out hx, qG_nS ha hx, mR_, n10]
  · simp [ha, mR_, n10, qG_nG ha]
theorem qW_c (T : Nat → Int32) (x : Int32) : qW_ T x = m1_ ∧ qW_ T x < nI 0 ∨ ¬ qW_ T x = m1_ ∧ ¬ qW_ T x < nI 0 := by
  unfold qW_
  split
  · exact .inr (by decide)
  · split
    · exact .inr (by decide)
    · exact .inl (by decide)
theorem m_nFree (hl : ov_L 11 l h) (hT : M 1 0 = nI n) (hn : n ≤ 10) (a x : Int32) : F_X6_isRefusedCede (mv_ l M h) (l 0) a x = some (mR_ l M h (qrFree_ (M 1) a x)) := by
  unfold F_X6_isRefusedCede qrFree_
  simp only [mv_is hl, mr_0 hl, Option.bind_some, kk_m2, kk_m3, kk_n1, kj_i0, kj_l0, kj_i1, kj_l1, kj_i2, kj_l2, kj_i3, kj_l3, kj_i4, kj_l4, kj_i5, kj_l5, kj_i6, kj_l6, kj_i7, kj_l7, kj_i8, kj_l8, kj_i9, kj_l9, kj_i10, kj_l10, kj_i11, kj_l11, kj_i12, kj_l12, kj_i13, kj_l13, kj_i14, kj_l14, kj_i15, kj_l15, kj_i16, kj_l16, kk_b6, kk_b7, kk_b8, kk_b9, kk_b10, kk_b11, kk_b12, kk_b13, kk_b14, kk_b15, kk_b16, kk_b20, kk_b40, nI_add, m_in, m_isL, m_isG, bI_n, ne_eq, Decidable.not_not, m_S hl hT hn, m_at hl (show 0 < 110 by decide), hT, mW_1, m_noG hl]
  by_cases ha : In_ (nI 0) (nI 1) a = true
  · simp only [ha, if_true, mv_is hl, mr_0 hl, Option.bind_some, kk_m2, kk_m3, kk_n1, kj_i0, kj_l0, kj_i1, kj_l1, kj_i2, kj_l2, kj_i3, kj_l3, kj_i4, kj_l4, kj_i5, kj_l5, kj_i6, kj_l6, kj_i7, kj_l7, kj_i8, kj_l8, kj_i9, kj_l9, kj_i10, kj_l10, kj_i11, kj_l11, kj_i12, kj_l12, kj_i13, kj_l13, kj_i14, kj_l14, kj_i15, kj_l15, kj_i16, kj_l16, kk_b6, kk_b7, kk_b8, kk_b9, kk_b10, kk_b11, kk_b12, kk_b13, kk_b14, kk_b15, kk_b16, kk_b20, kk_b40, nI_add, m_in, m_isL, m_isG, bI_n, ne_eq, Decidable.not_not, m_S hl hT hn, m_at hl (show 0 < 110 by decide), hT, mW_1, m_noG hl, m_noL hl, m_noS hl hT hn, m_bad hl, mR_]
    by_cases hx : In_ (nI 0) (nI 7) x = true
    · obtain ⟨j, hj, rfl⟩ := In_of (by decide) hx
      simp only [hx, if_true, mv_is hl, mr_0 hl, Option.bind_some, kk_m2, kk_m3, kk_n1, kj_i0, kj_l0, kj_i1, kj_l1, kj_i2, kj_l2, kj_i3, kj_l3, kj_i4, kj_l4, kj_i5, kj_l5, kj_i6, kj_l6, kj_i7, kj_l7, kj_i8, kj_l8, kj_i9, kj_l9, kj_i10, kj_l10, kj_i11, kj_l11, kj_i12, kj_l12, kj_i13, kj_l13, kj_i14, kj_l14, kj_i15, kj_l15, kj_i16, kj_l16, kk_b6, kk_b7, kk_b8, kk_b9, kk_b10, kk_b11, kk_b12, kk_b13, kk_b14, kk_b15, kk_b16, kk_b20, kk_b40, nI_add, m_in, m_isL, m_isG, bI_n, ne_eq, Decidable.not_not, m_S hl hT hn, m_at hl (show 0 < 110 by decide), hT, mW_1, m_noG hl, m_noL hl, m_noS hl hT hn, m_bad hl, mR_, m_ow hl (show j < 8 by omega), m_W hl, cl_nI (show j < 2 ^ 31 by omega)]
      by_cases h1 : oT_ (M 1) j = a
      · rcases qW_c (M 1) (nI j) with ⟨h2, h3⟩ | ⟨h2, h3⟩
        · rw [h2] at h3
          simp [h1, h2, h3]
        · simp [h1, h2, h3, n10]
      · simp [h1, n10, n1f]
    · simp [hx, mv_is hl, mr_0 hl, Option.bind_some, kk_m2, kk_m3, kk_n1, kj_i0, kj_l0, kj_i1, kj_l1, kj_i2, kj_l2, kj_i3, kj_l3, kj_i4, kj_l4, kj_i5, kj_l5, kj_i6, kj_l6, kj_i7, kj_l7, kj_i8, kj_l8, kj_i9, kj_l9, kj_i10, kj_l10, kj_i11, kj_l11, kj_i12, kj_l12, kj_i13, kj_l13, kj_i14, kj_l14, kj_i15, kj_l15, kj_i16, kj_l16, kk_b6, kk_b7, kk_b8, kk_b9, kk_b10, kk_b11, kk_b12, kk_b13, kk_b14, kk_b15, kk_b16, kk_b20, kk_b40, nI_add, m_in, m_isL, m_isG, bI_n, ne_eq, Decidable.not_not, m_S hl hT hn, m_at hl (show 0 < 110 by decide), hT, mW_1, m_noG hl, m_noL hl, m_noS hl hT hn, m_bad hl, mR_, n10]
  · simp [ha, mR_, n10]
theorem m_nTake (hl : ov_L 11 l h) (hT : M 1 0 = nI n) (hn : n ≤ 10) (I : I_ (M 1) n) (x : Int32) : F_X6_isRefusedTake (mv_ l M h) (l 0) x = some (mR_ l M h (qrTake_ (M 1) n x)) := by
  obtain ⟨b, hb, eb⟩ := I.1
  unfold F_X6_isRefusedTake qrTake_
  simp only [mv_is hl, mr_0 hl, Option.bind_some, kk_m2, kk_m3, kk_n1, kj_i0, kj_l0, kj_i1, kj_l1, kj_i2, kj_l2, kj_i3, kj_l3, kj_i4, kj_l4, kj_i5, kj_l5, kj_i6, kj_l6, kj_i7, kj_l7, kj_i8, kj_l8, kj_i9, kj_l9, kj_i10, kj_l10, kj_i11, kj_l11, kj_i12, kj_l12, kj_i13, kj_l13, kj_i14, kj_l14, kj_i15, kj_l15, kj_i16, kj_l16, kk_b6, kk_b7, kk_b8, kk_b9, kk_b10, kk_b11, kk_b12, kk_b13, kk_b14, kk_b15, kk_b16, kk_b20, kk_b40, nI_add, m_in, m_isL, m_isG, bI_n, ne_eq, Decidable.not_not, m_S hl hT hn, m_at hl (show 0 < 110 by decide), hT, mW_1, m_at hl (show 3 < 110 by decide), m_noL hl, eb]
  by_cases hx : In_ (nI 0) (nI 7) x = true
  · obtain ⟨j, hj, rfl⟩ := In_of (by decide) hx
    simp only [hx, if_true, mv_is hl, mr_0 hl, Option.bind_some, kk_m2, kk_m3, kk_n1, kj_i0, kj_l0, kj_i1, kj_l1, kj_i2, kj_l2, kj_i3, kj_l3, kj_i4, kj_l4, kj_i5, kj_l5, kj_i6, kj_l6, kj_i7, kj_l7, kj_i8, kj_l8, kj_i9, kj_l9, kj_i10, kj_l10, kj_i11, kj_l11, kj_i12, kj_l12, kj_i13, kj_l13, kj_i14, kj_l14, kj_i15, kj_l15, kj_i16, kj_l16, kk_b6, kk_b7, kk_b8, kk_b9, kk_b10, kk_b11, kk_b12, kk_b13, kk_b14, kk_b15, kk_b16, kk_b20, kk_b40, nI_add, m_in, m_isL, m_isG, bI_n, ne_eq, Decidable.not_not, m_S hl hT hn, m_at hl (show 0 < 110 by decide), hT, mW_1, m_noG hl, m_noL hl, m_noS hl hT hn, m_bad hl, mR_, m_ow hl (show j < 8 by omega), m_W hl, m_X hl hT hn I, m_L hl, m_gv hl (show 12 + 5 * b + 0 < 110 by omega), m_price hl (show j < 8 by omega), cl_nI (show j < 2 ^ 31 by omega), cl_nI (show b < 2 ^ 31 by omega)]
    by_cases h1 : oT_ (M 1) j = nI b
    · simp [h1, n10, n1f]
    · rcases qW_c (M 1) (nI j) with ⟨h2, h3⟩ | ⟨h2, h3⟩
      · rw [h2] at h3
        by_cases h4 : qX_ (M 1) n (nI j) (nI b) = true
        · by_cases h5 : gT_ (M 1) b 0 < price_ (M 1) j
          · have h6 : ¬ price_ (M 1) j ≤ gT_ (M 1) b 0 := Int32.not_le.mpr h5
            simp [h1, h2, h3, h4, h5, n10]
            intro q
            exact absurd q h6
          · have h6 : price_ (M 1) j ≤ gT_ (M 1) b 0 := Int32.not_lt.mp h5
            simp [h1, h2, h3, h4, h6, n10]
            rw [if_neg h5]
        · simp [h1, h2, h3, h4, n10, n1f]
      · simp [h1, h2, n10, n1f]
        exact fun q => absurd q h3
  · simp [hx, mR_, n10]
end MY

/-! what the reference does -/
section MD
variable {l : Nat → Nat} {M : Nat → Nat → Int32} {h : mm_S} {i k j b n : Nat} {v : Int32}
theorem m_halve (hl : ov_L 11 l h) (hj : j < 10) : F_X6_halves (mv_ l M h) (l 0) (nI j) = some ((sT_ (M 1) j 2 + nI 1) / nI 2, mv_ l (mT_ M (tHalve_ (M 1) j)) h) := by
  unfold F_X6_halves tHalve_
  have h2 : 34 + 7 * j + 2 < 110 := by omega
  have h4 : 34 + 7 * j + 4 < 110 := by omega
  simp [mv_is hl, mr_0 hl, Option.bind_some, kk_m2, kk_m3, kk_n1, kj_i0, kj_l0, kj_i1, kj_l1, kj_i2, kj_l2, kj_i3, kj_l3, kj_i4, kj_l4, kj_i5, kj_l5, kj_i6, kj_l6, kj_i7, kj_l7, kj_i8, kj_l8, kj_i9, kj_l9, kj_i10, kj_l10, kj_i11, kj_l11, kj_i12, kj_l12, kj_i13, kj_l13, kj_i14, kj_l14, kj_i15, kj_l15, kj_i16, kj_l16, kk_b6, kk_b7, kk_b8, kk_b9, kk_b10, kk_b11, kk_b12, kk_b13, kk_b14, kk_b15, kk_b16, kk_b20, kk_b40, nI_add, mT_1, mT_T, mT_s, m_sv hl h2, m_sv hl h4, m_ls hl h2, m_ls hl h4, d2, m_at hl (show 9 < 110 by decide), m_st hl (show 9 < 110 by decide), sS_at, sS_ne, sG, sO, sN, gG_at, gG_ne, gS, gO, gN, oO_at, oO_ne, oS, oG, oN, nS, nG, nO, and_false, false_and, not_false_eq_true, not_true_eq_false, and_true, true_and]
theorem m_lease (hl : ov_L 11 l h) (hj : j < 10) (x d : Int32) : F_X6_leases (mv_ l M h) (l 0) x (nI j) d = some (rent_ (sT_ (M 1) j), mv_ l (mT_ M (tLease_ (M 1) j x d)) h) := by
  unfold F_X6_leases tLease_
  have h5 : 34 + 7 * j + 5 < 110 := by omega
  have h6 : 34 + 7 * j + 6 < 110 := by omega
  simp [mv_is hl, mr_0 hl, Option.bind_some, kk_m2, kk_m3, kk_n1, kj_i0, kj_l0, kj_i1, kj_l1, kj_i2, kj_l2, kj_i3, kj_l3, kj_i4, kj_l4, kj_i5, kj_l5, kj_i6, kj_l6, kj_i7, kj_l7, kj_i8, kj_l8, kj_i9, kj_l9, kj_i10, kj_l10, kj_i11, kj_l11, kj_i12, kj_l12, kj_i13, kj_l13, kj_i14, kj_l14, kj_i15, kj_l15, kj_i16, kj_l16, kk_b6, kk_b7, kk_b8, kk_b9, kk_b10, kk_b11, kk_b12, kk_b13, kk_b14, kk_b15, kk_b16, kk_b20, kk_b40, nI_add, mT_1, mT_T, mT_s, m_ls hl h5, m_ls hl h6, m_rent hl hj, rent_, sS_at, sS_ne, sG, sO, sN, gG_at, gG_ne, gS, gO, gN, oO_at, oO_ne, oS, oG, oN, nS, nG, nO, and_false, false_and, not_false_eq_true, not_true_eq_false, and_true, true_and]
theorem m_levyC (hl : ov_L 11 l h) (hb : b < 2) (hj : j < 10) : F_X6_levyBy (mv_ l M h) (l 0) (nI b) (nI j) = some (tLevyC_ (M 1) b j) := by
  unfold F_X6_levyBy tLevyC_
  have h3 : 34 + 7 * j + 3 < 110 := by omega
  have hb1 : 12 + 5 * (1 - b) + 0 < 110 := by omega
  simp only [mv_is hl, mr_0 hl, Option.bind_some, kk_m2, kk_m3, kk_n1, kj_i0, kj_l0, kj_i1, kj_l1, kj_i2, kj_l2, kj_i3, kj_l3, kj_i4, kj_l4, kj_i5, kj_l5, kj_i6, kj_l6, kj_i7, kj_l7, kj_i8, kj_l8, kj_i9, kj_l9, kj_i10, kj_l10, kj_i11, kj_l11, kj_i12, kj_l12, kj_i13, kj_l13, kj_i14, kj_l14, kj_i15, kj_l15, kj_i16, kj_l16, kk_b6, kk_b7, kk_b8, kk_b9, kk_b10, kk_b11, kk_b12, kk_b13, kk_b14, kk_b15, kk_b16, kk_b20, kk_b40, nI_add, mT_1, mT_T, mT_s, m_sv hl h3, d4, u1 hb, m_gv hl hb1]
  by_cases h1 : sT_ (M 1) j 3 / nI 4 ≤ gT_ (M 1) (1 - b) 0
  · rw [if_pos h1, if_neg (Int32.not_lt.mpr h1)]
  · rw [if_neg h1, if_pos (Int32.not_le.mp h1)]
theorem upd_c {T : Nat → Int32} {a b : Nat} {x y : Int32} (h : a ≠ b) : upd (upd T a x) b y = upd (upd T b y) a x := by
  funext k
  unfold upd
  by_cases h1 : k = a
  · by_cases h2 : k = b
    · exact absurd (h1.symm.trans h2) h
    · rw [if_neg h2, if_pos h1, if_pos h1]
  · by_cases h2 : k = b
    · rw [if_pos h2, if_neg h1, if_pos h2]
    · rw [if_neg h2, if_neg h1, if_neg h1, if_neg h2]
theorem upd_s {T : Nat → Int32} {a : Nat} : upd T a (T a) = T := by
  funext k
  unfold upd
  split
  · next e => rw [e]
  · rfl
theorem upd_u {T : Nat → Int32} {a : Nat} {x y : Int32} : upd (upd T a x) a y = upd T a y := by
  funext k
  unfold upd
  split <;> rfl
theorem m_levy (hl : ov_L 11 l h) (hb : b < 2) (hj : j < 10) : F_X6_levies (mv_ l M h) (l 0) (nI b) (nI j) = some (tLevyC_ (M 1) b j, mv_ l (mT_ M (tLevy_ (M 1) b j (tLevyC_ (M 1) b j))) h) := by
  unfold F_X6_levies tLevy_
  have h3 : 34 + 7 * j + 3 < 110 := by omega
  have hb0 : 12 + 5 * b + 0 < 110 := by omega
  have hb1 : 12 + 5 * (1 - b) + 0 < 110 := by omega
  have hb2 : 1 - b < 2 := by omega
  have hbb : ¬ b = 1 - b := by omega
  have hbc : ¬ 1 - b = b := by omega
  have hc := m_levyC (M := M) (h := h) hl hb hj
  generalize tLevyC_ (M 1) b j = c at hc ⊢
  have e1 : tG_ (tG_ (M 1) b 0 (gT_ (M 1) b 0 + c)) (1 - b) 0 (gT_ (M 1) (1 - b) 0 + -c) = tG_ (tG_ (M 1) (1 - b) 0 (gT_ (M 1) (1 - b) 0 - c)) b 0 (gT_ (M 1) b 0 + c) := by
    unfold tG_
    rw [upd_c (by omega), Int32.sub_eq_add_neg]
  simp [mv_is hl, mr_0 hl, Option.bind_some, kk_m2, kk_m3, kk_n1, kj_i0, kj_l0, kj_i1, kj_l1, kj_i2, kj_l2, kj_i3, kj_l3, kj_i4, kj_l4, kj_i5, kj_l5, kj_i6, kj_l6, kj_i7, kj_l7, kj_i8, kj_l8, kj_i9, kj_l9, kj_i10, kj_l10, kj_i11, kj_l11, kj_i12, kj_l12, kj_i13, kj_l13, kj_i14, kj_l14, kj_i15, kj_l15, kj_i16, kj_l16, kk_b6, kk_b7, kk_b8, kk_b9, kk_b10, kk_b11, kk_b12, kk_b13, kk_b14, kk_b15, kk_b16, kk_b20, kk_b40, nI_add, mT_1, mT_T, mT_s, hc, m_more hl hb0, m_more hl hb1, u1 hb, m_at hl (show 5 < 110 by decide), m_st hl (show 5 < 110 by decide), m_ls hl h3, sS_at, sS_ne, sG, sO, sN, gG_at, gG_ne, gS, gO, gN, oO_at, oO_ne, oS, oG, oN, nS, nG, nO, and_false, false_and, not_false_eq_true, not_true_eq_false, and_true, true_and, hb, hb2, hbb, hbc, e1]
theorem m_free (hl : ov_L 11 l h) (hi : i < 8) (x : Int32) : F_X6_cedes (mv_ l M h) (l 0) x (nI i) = some (qL_ (tFree_ (M 1) i) x, mv_ l (mT_ M (tFree_ (M 1) i)) h) := by
  unfold F_X6_cedes tFree_ tO_
  simp [mv_is hl, mr_0 hl, Option.bind_some, kk_m2, kk_m3, kk_n1, kj_i0, kj_l0, kj_i1, kj_l1, kj_i2, kj_l2, kj_i3, kj_l3, kj_i4, kj_l4, kj_i5, kj_l5, kj_i6, kj_l6, kj_i7, kj_l7, kj_i8, kj_l8, kj_i9, kj_l9, kj_i10, kj_l10, kj_i11, kj_l11, kj_i12, kj_l12, kj_i13, kj_l13, kj_i14, kj_l14, kj_i15, kj_l15, kj_i16, kj_l16, kk_b6, kk_b7, kk_b8, kk_b9, kk_b10, kk_b11, kk_b12, kk_b13, kk_b14, kk_b15, kk_b16, kk_b20, kk_b40, nI_add, mT_1, mT_T, mT_s, kk_b24, m_st hl (show 24 + i < 110 by omega), m_L hl]
theorem sn (x y : Int32) : x + -y = x - y := (Int32.sub_eq_add_neg _ _).symm
theorem m_take (hl : ov_L 11 l h) (hb : b < 2) (h3 : M 1 3 = nI b) (hi : i < 8) : F_X6_takes (mv_ l M h) (l 0) (nI i) = some (gT_ (M 1) b 0 - price_ (M 1) i, mv_ l (mT_ M (tTake_ (M 1) b i)) h) := by
  have hb0 : 12 + 5 * b + 0 < 110 := by omega
  have hb1 : 12 + 5 * (1 - b) + 0 < 110 := by omega
  have hb2 : 1 - b < 2 := by omega
  have hbb : ¬ b = 1 - b := by omega
  have hbc : ¬ 1 - b = b := by omega
  unfold F_X6_takes tTake_ tPay_
  have hp2 : ∀ v w, price_ (upd (tG_ (M 1) b 0 v) 2 w) i = price_ (M 1) i := fun v w => by
    unfold price_
    simp [sS_at, sS_ne, sG, sO, sN, gG_at, gG_ne, gS, gO, gN, oO_at, oO_ne, oS, oG, oN, nS, nG, nO, and_false, false_and, not_false_eq_true, not_true_eq_false, and_true, true_and, hb]
  simp [mv_is hl, mr_0 hl, Option.bind_some, kk_m2, kk_m3, kk_n1, kj_i0, kj_l0, kj_i1, kj_l1, kj_i2, kj_l2, kj_i3, kj_l3, kj_i4, kj_l4, kj_i5, kj_l5, kj_i6, kj_l6, kj_i7, kj_l7, kj_i8, kj_l8, kj_i9, kj_l9, kj_i10, kj_l10, kj_i11, kj_l11, kj_i12, kj_l12, kj_i13, kj_l13, kj_i14, kj_l14, kj_i15, kj_l15, kj_i16, kj_l16, kk_b6, kk_b7, kk_b8, kk_b9, kk_b10, kk_b11, kk_b12, kk_b13, kk_b14, kk_b15, kk_b16, kk_b20, kk_b40, nI_add, mT_1, mT_T, mT_s, m_at hl (show 3 < 110 by decide), h3, m_price hl hi, m_more hl hb0, m_more hl hb1, m_at hl (show 2 < 110 by decide), m_st hl (show 2 < 110 by decide), hp2, u1 hb, kk_b24, m_st hl (show 24 + i < 110 by omega), m_at hl (show 8 < 110 by decide), m_st hl (show 8 < 110 by decide), m_gv hl hb0, sS_at, sS_ne, sG, sO, sN, gG_at, gG_ne, gS, gO, gN, oO_at, oO_ne, oS, oG, oN, nS, nG, nO, and_false, false_and, not_false_eq_true, not_true_eq_false, and_true, true_and, hb, hb2, hbb, hbc, sn]
  by_cases h1 : oT_ (M 1) i = nI 2
  · have e5 : nI 5 - nI 5 = 0 := by decide
    have e6 : price_ (M 1) i = nI 5 := by
      unfold price_
      rw [if_pos h1]
    have e7 : ∀ x, tG_ (upd (tG_ (M 1) b 0 x) 2 (M 1 2 + nI 5)) (1 - b) 0 (gT_ (M 1) (1 - b) 0) = upd (tG_ (M 1) b 0 x) 2 (M 1 2 + nI 5) := fun x => by
      have e8 : gT_ (M 1) (1 - b) 0 = upd (tG_ (M 1) b 0 x) 2 (M 1 2 + nI 5) (12 + 5 * (1 - b) + 0) := by
        show _ = gT_ (upd (tG_ (M 1) b 0 x) 2 (M 1 2 + nI 5)) (1 - b) 0
        simp [sS_at, sS_ne, sG, sO, sN, gG_at, gG_ne, gS, gO, gN, oO_at, oO_ne, oS, oG, oN, nS, nG, nO, and_false, false_and, not_false_eq_true, not_true_eq_false, and_true, true_and, hbc]
      unfold tG_ at e8 ⊢
      rw [e8, upd_s]
    simp [h1, e6, e5, e7, tO_, pk_un, Int32.add_zero]
    unfold tG_
    refine ⟨?_, ?_⟩
    · unfold gT_
      rw [pk_un (by omega), pk_un (by omega), pk_us]
    · rw [pk_un (show 8 ≠ 24 + i by omega), pk_un (show 8 ≠ 2 by omega), pk_un (show 8 ≠ 12 + 5 * b + 0 by omega)]
  · have e6 : price_ (M 1) i = nI 10 := by
      unfold price_
      rw [if_neg h1]
    have e5 : nI 10 - nI 5 = nI 5 := by decide
    simp [h1, e6, e5, tO_]
    unfold tG_
    refine ⟨?_, ?_⟩
    · unfold gT_
      rw [pk_un (by omega), pk_un (by omega), pk_un (by omega), pk_us]
    · rw [pk_un (show 8 ≠ 24 + i by omega), pk_un (show 8 ≠ 12 + 5 * (1 - b) + 0 by omega), pk_un (show 8 ≠ 2 by omega), pk_un (show 8 ≠ 12 + 5 * b + 0 by omega)]
theorem m_stepB (hl : ov_L 11 l h) (hb : b < 2) (hj : j < 10) (br : Int32) : F_X6_climbs_B90 (mv_ l M h) (l 0) (nI b) (nI j) br = some (br, mv_ l (mT_ M (tStep_ (M 1) b j br)) h) := by
  unfold F_X6_climbs_B90 tStep_
  have h3 : 34 + 7 * j + 3 < 110 := by omega
  have hb2 : 12 + 5 * b + 2 < 110 := by omega
  simp [mv_is hl, mr_0 hl, Option.bind_some, kk_m2, kk_m3, kk_n1, kj_i0, kj_l0, kj_i1, kj_l1, kj_i2, kj_l2, kj_i3, kj_l3, kj_i4, kj_l4, kj_i5, kj_l5, kj_i6, kj_l6, kj_i7, kj_l7, kj_i8, kj_l8, kj_i9, kj_l9, kj_i10, kj_l10, kj_i11, kj_l11, kj_i12, kj_l12, kj_i13, kj_l13, kj_i14, kj_l14, kj_i15, kj_l15, kj_i16, kj_l16, kk_b6, kk_b7, kk_b8, kk_b9, kk_b10, kk_b11, kk_b12, kk_b13, kk_b14, kk_b15, kk_b16, kk_b20, kk_b40, nI_add, mT_1, mT_T, mT_s, m_sv hl h3, m_ls hl h3, d2, m_more hl hb2, m_at hl (show 7 < 110 by decide), m_st hl (show 7 < 110 by decide), sS_at, sS_ne, sG, sO, sN, gG_at, gG_ne, gS, gO, gN, oO_at, oO_ne, oS, oG, oN, nS, nG, nO, and_false, false_and, not_false_eq_true, not_true_eq_false, and_true, true_and, hb]
theorem m_climb (hl : ov_L 11 l h) (hn : n ≤ 10) (I : I_ (M 1) n) (hb : b < 2) (hj : j < n) (he : E_ (sT_ (M 1) j) (gT_ (M 1) b 1) = true) : F_X6_climbs (mv_ l M h) (l 0) (nI b) (nI j) = some (cost_ (sT_ (M 1) j) (nI b), mv_ l (mT_ M (tClimb_ (M 1) b j)) h) := by
  have hj10 : j < 10 := by omega
  have ho := oth_nI I hj (gT_ (M 1) b 1)
  have ho2 := oc_lt I hj (gT_ (M 1) b 1)
  have hbb : ¬ b = 1 - b := by omega
  have hbc : ¬ 1 - b = b := by omega
  have hb2 : 1 - b < 2 := by omega
  have g0 : 12 + 5 * b + 0 < 110 := by omega
  have g1 : 12 + 5 * b + 1 < 110 := by omega
  have h0 : 12 + 5 * (1 - b) + 0 < 110 := by omega
  have h4 : 12 + 5 * (1 - b) + 4 < 110 := by omega
  have hm : ¬ nI b = m1_ := fun q => absurd (congrArg Int32.toInt q) (by rw [nI_toInt (by omega)]; show ¬ (b : Int) = -1; omega)
  unfold F_X6_climbs tClimb_ tGo_
  rw [ho]
  have hac := m_ac (M := M) (h := h) hl hj10 he
  rw [ho] at hac
  generalize oc_ (M 1) (gT_ (M 1) b 1) j = c at ho ho2 hac ⊢
  have eg : ∀ v, upd (M 1) (12 + 5 * b + 1) v = tG_ (M 1) b 1 v := fun v => rfl
  have s1 : (-1 : Int32) = m1_ := rfl
  have sm : ∀ x : Int32, x + m1_ = x - nI 1 := fun x => by
    rw [Int32.sub_eq_add_neg]
    rfl
  simp [mv_is hl, mr_0 hl, Option.bind_some, kk_m2, kk_m3, kk_n1, kj_i0, kj_l0, kj_i1, kj_l1, kj_i2, kj_l2, kj_i3, kj_l3, kj_i4, kj_l4, kj_i5, kj_l5, kj_i6, kj_l6, kj_i7, kj_l7, kj_i8, kj_l8, kj_i9, kj_l9, kj_i10, kj_l10, kj_i11, kj_l11, kj_i12, kj_l12, kj_i13, kj_l13, kj_i14, kj_l14, kj_i15, kj_l15, kj_i16, kj_l16, kk_b6, kk_b7, kk_b8, kk_b9, kk_b10, kk_b11, kk_b12, kk_b13, kk_b14, kk_b15, kk_b16, kk_b20, kk_b40, nI_add, mT_1, mT_T, mT_s, m_gv hl g1, hac, m_br hl hj10 hm, kk_b12, pk_mul, m_st hl g1, eg, m_ow hl ho2, u1 hb, sS_at, sS_ne, sG, sO, sN, gG_at, gG_ne, gS, gO, gN, oO_at, oO_ne, oS, oG, oN, nS, nG, nO, and_false, false_and, not_false_eq_true, not_true_eq_false, and_true, true_and, hb, cl_nI (show c < 2 ^ 31 by omega)]
  by_cases h1 : oT_ (M 1) c = nI (1 - b)
  · by_cases h2 : gT_ (M 1) b 0 ≤ nI 0
    · have h3 : ¬ nI 0 < gT_ (M 1) b 0 := Int32.not_lt.mpr h2
      simp [h1, m_gv hl g0, mv_is hl, mr_0 hl, Option.bind_some, kk_m2, kk_m3, kk_n1, kj_i0, kj_l0, kj_i1, kj_l1, kj_i2, kj_l2, kj_i3, kj_l3, kj_i4, kj_l4, kj_i5, kj_l5, kj_i6, kj_l6, kj_i7, kj_l7, kj_i8, kj_l8, kj_i9, kj_l9, kj_i10, kj_l10, kj_i11, kj_l11, kj_i12, kj_l12, kj_i13, kj_l13, kj_i14, kj_l14, kj_i15, kj_l15, kj_i16, kj_l16, kk_b6, kk_b7, kk_b8, kk_b9, kk_b10, kk_b11, kk_b12, kk_b13, kk_b14, kk_b15, kk_b16, kk_b20, kk_b40, nI_add, mT_1, mT_T, mT_s, sS_at, sS_ne, sG, sO, sN, gG_at, gG_ne, gS, gO, gN, oO_at, oO_ne, oS, oG, oN, nS, nG, nO, and_false, false_and, not_false_eq_true, not_true_eq_false, and_true, true_and, hb]
      rw [if_pos h2, if_neg h3, m_stepB hl hb hj10]
      simp [mv_is hl, mr_0 hl, Option.bind_some, kk_m2, kk_m3, kk_n1, kj_i0, kj_l0, kj_i1, kj_l1, kj_i2, kj_l2, kj_i3, kj_l3, kj_i4, kj_l4, kj_i5, kj_l5, kj_i6, kj_l6, kj_i7, kj_l7, kj_i8, kj_l8, kj_i9, kj_l9, kj_i10, kj_l10, kj_i11, kj_l11, kj_i12, kj_l12, kj_i13, kj_l13, kj_i14, kj_l14, kj_i15, kj_l15, kj_i16, kj_l16, kk_b6, kk_b7, kk_b8, kk_b9, kk_b10, kk_b11, kk_b12, kk_b13, kk_b14, kk_b15, kk_b16, kk_b20, kk_b40, nI_add, mT_1, mT_T, mT_s]
    · have h3 : nI 0 < gT_ (M 1) b 0 := Int32.not_le.mp h2
      simp [h1, m_gv hl g0, mv_is hl, mr_0 hl, Option.bind_some, kk_m2, kk_m3, kk_n1, kj_i0, kj_l0, kj_i1, kj_l1, kj_i2, kj_l2, kj_i3, kj_l3, kj_i4, kj_l4, kj_i5, kj_l5, kj_i6, kj_l6, kj_i7, kj_l7, kj_i8, kj_l8, kj_i9, kj_l9, kj_i10, kj_l10, kj_i11, kj_l11, kj_i12, kj_l12, kj_i13, kj_l13, kj_i14, kj_l14, kj_i15, kj_l15, kj_i16, kj_l16, kk_b6, kk_b7, kk_b8, kk_b9, kk_b10, kk_b11, kk_b12, kk_b13, kk_b14, kk_b15, kk_b16, kk_b20, kk_b40, nI_add, mT_1, mT_T, mT_s, sS_at, sS_ne, sG, sO, sN, gG_at, gG_ne, gS, gO, gN, oO_at, oO_ne, oS, oG, oN, nS, nG, nO, and_false, false_and, not_false_eq_true, not_true_eq_false, and_true, true_and, hb, hb2]
      rw [if_neg h2, if_pos h3]
      simp [m_more hl g0, m_more hl h0, m_more hl h4, mv_is hl, mr_0 hl, Option.bind_some, kk_m2, kk_m3, kk_n1, kj_i0, kj_l0, kj_i1, kj_l1, kj_i2, kj_l2, kj_i3, kj_l3, kj_i4, kj_l4, kj_i5, kj_l5, kj_i6, kj_l6, kj_i7, kj_l7, kj_i8, kj_l8, kj_i9, kj_l9, kj_i10, kj_l10, kj_i11, kj_l11, kj_i12, kj_l12, kj_i13, kj_l13, kj_i14, kj_l14, kj_i15, kj_l15, kj_i16, kj_l16, kk_b6, kk_b7, kk_b8, kk_b9, kk_b10, kk_b11, kk_b12, kk_b13, kk_b14, kk_b15, kk_b16, kk_b20, kk_b40, nI_add, mT_1, mT_T, mT_s, sS_at, sS_ne, sG, sO, sN, gG_at, gG_ne, gS, gO, gN, oO_at, oO_ne, oS, oG, oN, nS, nG, nO, and_false, false_and, not_false_eq_true, not_true_eq_false, and_true, true_and, hb, hb2, hbb, hbc, m_at hl (show 6 < 110 by decide), m_st hl (show 6 < 110 by decide), m_stepB hl hb hj10, sm, tToll_]
  · simp [h1, m_stepB hl hb hj10, mv_is hl, mr_0 hl, Option.bind_some, kk_m2, kk_m3, kk_n1, kj_i0, kj_l0, kj_i1, kj_l1, kj_i2, kj_l2, kj_i3, kj_l3, kj_i4, kj_l4, kj_i5, kj_l5, kj_i6, kj_l6, kj_i7, kj_l7, kj_i8, kj_l8, kj_i9, kj_l9, kj_i10, kj_l10, kj_i11, kj_l11, kj_i12, kj_l12, kj_i13, kj_l13, kj_i14, kj_l14, kj_i15, kj_l15, kj_i16, kj_l16, kk_b6, kk_b7, kk_b8, kk_b9, kk_b10, kk_b11, kk_b12, kk_b13, kk_b14, kk_b15, kk_b16, kk_b20, kk_b40, nI_add, mT_1, mT_T, mT_s]
theorem m_ends (hl : ov_L 11 l h) (hj : j < 10) : F_X6_ends (mv_ l M h) (l 0) (nI j) = some (mv_ l (mT_ M (tEnd_ (M 1) j)) h) := by
  unfold F_X6_ends tEnd_
  have h5 : 34 + 7 * j + 5 < 110 := by omega
  have h6 : 34 + 7 * j + 6 < 110 := by omega
  simp [mv_is hl, mr_0 hl, Option.bind_some, kk_m2, kk_m3, kk_n1, kj_i0, kj_l0, kj_i1, kj_l1, kj_i2, kj_l2, kj_i3, kj_l3, kj_i4, kj_l4, kj_i5, kj_l5, kj_i6, kj_l6, kj_i7, kj_l7, kj_i8, kj_l8, kj_i9, kj_l9, kj_i10, kj_l10, kj_i11, kj_l11, kj_i12, kj_l12, kj_i13, kj_l13, kj_i14, kj_l14, kj_i15, kj_l15, kj_i16, kj_l16, kk_b6, kk_b7, kk_b8, kk_b9, kk_b10, kk_b11, kk_b12, kk_b13, kk_b14, kk_b15, kk_b16, kk_b20, kk_b40, nI_add, mT_1, mT_T, mT_s, m_ls hl h5, m_ls hl h6]
theorem m_gives (hl : ov_L 11 l h) (hn : n ≤ 10) (hS : St_ (sT_ (M 1) j)) (hj : j < n) : F_X6_givesRent (mv_ l M h) (l 0) (nI j) = some (tRentN_ (M 1) j, mv_ l (mT_ M (tRent_ (M 1) j)) h) := by
  have hj10 : j < 10 := by omega
  have h5 : 34 + 7 * j + 5 < 110 := by omega
  have h6 : 34 + 7 * j + 6 < 110 := by omega
  unfold F_X6_givesRent tRentN_ tRent_
  simp only [mv_is hl, mr_0 hl, Option.bind_some, kk_m2, kk_m3, kk_n1, kj_i0, kj_l0, kj_i1, kj_l1, kj_i2, kj_l2, kj_i3, kj_l3, kj_i4, kj_l4, kj_i5, kj_l5, kj_i6, kj_l6, kj_i7, kj_l7, kj_i8, kj_l8, kj_i9, kj_l9, kj_i10, kj_l10, kj_i11, kj_l11, kj_i12, kj_l12, kj_i13, kj_l13, kj_i14, kj_l14, kj_i15, kj_l15, kj_i16, kj_l16, kk_b6, kk_b7, kk_b8, kk_b9, kk_b10, kk_b11, kk_b12, kk_b13, kk_b14, kk_b15, kk_b16, kk_b20, kk_b40, nI_add, mT_1, mT_T, mT_s, m_sv hl h5]
  rcases hS.2.2.2.2 with ⟨e5, e6⟩ | ⟨b, y, hb, h1, h2, e5, e6⟩
  · have a1 : ¬ nI 0 ≤ m1_ := by decide
    have a2 : ¬ In_ (nI 0) (nI 1) m1_ = true := by decide
    simp [e5, a1, a2, mT_s]
  · have a1 : nI 0 ≤ nI b := nI_pos' (by omega)
    have a2 : In_ (nI 0) (nI 1) (nI b) = true := (In_nI (m := 1) (by decide) (by omega)).mpr (by omega)
    have g0 : 12 + 5 * b + 0 < 110 := by omega
    have g3 : 12 + 5 * b + 3 < 110 := by omega
    rw [e5, if_pos a1, if_pos a2]
    have hr := m_rent (M := M) (h := h) hl hj10
    simp only [mv_is hl, mr_0 hl, Option.bind_some, kk_m2, kk_m3, kk_n1, kj_i0, kj_l0, kj_i1, kj_l1, kj_i2, kj_l2, kj_i3, kj_l3, kj_i4, kj_l4, kj_i5, kj_l5, kj_i6, kj_l6, kj_i7, kj_l7, kj_i8, kj_l8, kj_i9, kj_l9, kj_i10, kj_l10, kj_i11, kj_l11, kj_i12, kj_l12, kj_i13, kj_l13, kj_i14, kj_l14, kj_i15, kj_l15, kj_i16, kj_l16, kk_b6, kk_b7, kk_b8, kk_b9, kk_b10, kk_b11, kk_b12, kk_b13, kk_b14, kk_b15, kk_b16, kk_b20, kk_b40, nI_add, mT_1, mT_T, mT_s, hr, m_gv hl g0, cl_nI (show b < 2 ^ 31 by omega), a2, true_and]
    generalize er : rent_ (sT_ (M 1) j) = r at hr ⊢
    by_cases h3 : r ≤ gT_ (M 1) b 0
    · rw [if_pos h3, if_pos h3, if_pos h3]
      have eG : tS_ (upd (upd (tG_ (tG_ (M 1) b 0 (gT_ (M 1) b 0 - r)) b 3 (gT_ (M 1) b 3 + r)) 2 ((M 1) 2 + r)) 4 ((M 1) 4 + r)) j 6 (sT_ (M 1) j 6 - nI 1) = tGive_ (M 1) j b := by
        unfold tGive_
        rw [er]
      have eS : sT_ (tGive_ (M 1) j b) j 6 = sT_ (M 1) j 6 - nI 1 := by
        unfold tGive_
        simp [sS_at, sS_ne, sG, sO, sN, gG_at, gG_ne, gS, gO, gN, oO_at, oO_ne, oS, oG, oN, nS, nG, nO, and_false, false_and, not_false_eq_true, not_true_eq_false, and_true, true_and]
      simp [mv_is hl, mr_0 hl, Option.bind_some, kk_m2, kk_m3, kk_n1, kj_i0, kj_l0, kj_i1, kj_l1, kj_i2, kj_l2, kj_i3, kj_l3, kj_i4, kj_l4, kj_i5, kj_l5, kj_i6, kj_l6, kj_i7, kj_l7, kj_i8, kj_l8, kj_i9, kj_l9, kj_i10, kj_l10, kj_i11, kj_l11, kj_i12, kj_l12, kj_i13, kj_l13, kj_i14, kj_l14, kj_i15, kj_l15, kj_i16, kj_l16, kk_b6, kk_b7, kk_b8, kk_b9, kk_b10, kk_b11, kk_b12, kk_b13, kk_b14, kk_b15, kk_b16, kk_b20, kk_b40, nI_add, mT_1, mT_T, mT_s, m_more hl g0, m_more hl g3, m_at hl (show 2 < 110 by decide), m_st hl (show 2 < 110 by decide), m_at hl (show 4 < 110 by decide), m_st hl (show 4 < 110 by decide), m_sv hl h6, m_ls hl h6, sS_at, sS_ne, sG, sO, sN, gG_at, gG_ne, gS, gO, gN, oO_at, oO_ne, oS, oG, oN, nS, nG, nO, and_false, false_and, not_false_eq_true, not_true_eq_false, and_true, true_and, hb, sn, pk_un, eG, eS]
      by_cases h4 : sT_ (M 1) j 6 - nI 1 = nI 0
      · simp [h4, m_ends hl hj10, mv_is hl, mr_0 hl, Option.bind_some, kk_m2, kk_m3, kk_n1, kj_i0, kj_l0, kj_i1, kj_l1, kj_i2, kj_l2, kj_i3, kj_l3, kj_i4, kj_l4, kj_i5, kj_l5, kj_i6, kj_l6, kj_i7, kj_l7, kj_i8, kj_l8, kj_i9, kj_l9, kj_i10, kj_l10, kj_i11, kj_l11, kj_i12, kj_l12, kj_i13, kj_l13, kj_i14, kj_l14, kj_i15, kj_l15, kj_i16, kj_l16, kk_b6, kk_b7, kk_b8, kk_b9, kk_b10, kk_b11, kk_b12, kk_b13, kk_b14, kk_b15, kk_b16, kk_b20, kk_b40, nI_add, mT_1, mT_T, mT_s]
      · simp [h4]
    · rw [if_neg h3, if_neg h3, if_neg h3]
      simp [m_ends hl hj10, mv_is hl, mr_0 hl, Option.bind_some, kk_m2, kk_m3, kk_n1, kj_i0, kj_l0, kj_i1, kj_l1, kj_i2, kj_l2, kj_i3, kj_l3, kj_i4, kj_l4, kj_i5, kj_l5, kj_i6, kj_l6, kj_i7, kj_l7, kj_i8, kj_l8, kj_i9, kj_l9, kj_i10, kj_l10, kj_i11, kj_l11, kj_i12, kj_l12, kj_i13, kj_l13, kj_i14, kj_l14, kj_i15, kj_l15, kj_i16, kj_l16, kk_b6, kk_b7, kk_b8, kk_b9, kk_b10, kk_b11, kk_b12, kk_b13, kk_b14, kk_b15, kk_b16, kk_b20, kk_b40, nI_add, mT_1, mT_T, mT_s]
theorem m_dust (hl : ov_L 11 l h) (a c : Int32) : F_X6_least (mv_ l M h) (nI 20) (a + c + nI 1) = some (tMore_ a (nI 1 + c)) := by
  unfold F_X6_least tMore_
  have e : a + c + nI 1 = a + (nI 1 + c) := by
    rw [Int32.add_assoc, Int32.add_comm c]
  rw [e]
  by_cases h1 : a + (nI 1 + c) ≤ nI 20
  · rw [if_pos h1]
    by_cases h2 : a + (nI 1 + c) < nI 20
    · rw [if_pos h2]
    · rw [if_neg h2]
      exact congrArg some (Int32.le_antisymm h1 (Int32.not_lt.mp h2))
  · rw [if_neg h1, if_neg (fun q => h1 (Int32.le_of_lt q))]
end MD

/-! what the reference reads and refuses -/
def mW_ (M : Nat → Nat → Int32) (q : Int32 × Int32) : Nat → Nat → Int32 := w2_ (w2_ M 0 7 q.1) 0 8 q.2
def mR_ (l : Nat → Nat) (M : Nat → Nat → Int32) (h : mm_S) (o : Option (Int32 × Int32)) : Int32 × mm_S := match o with
  | none => (nI 0, mv_ l M h)
  | some q => (nI 1, mv_ l (mW_ M q) h)
section MR
variable {l : Nat → Nat} {M : Nat → Nat → Int32} {h : mm_S} {i k j b n : Nat} {v : Int32}
theorem mW_1 {q : Int32 × Int32} : mW_ M q 1 = M 1 := by
  unfold mW_
  rw [w2_ne (by decide), w2_ne (by decide)]
theorem m_S (hl : ov_L 11 l h) (hT : M 1 0 = nI n) (hn : n ≤ 10) (x : Int32) : F_X6_isStair (mv_ l M h) (l 0) x = some (bI_ (S_ n x)) := by
  unfold F_X6_isStair
  rw [mr_0 hl, Option.bind_some, kj_i0, m_at hl (by decide), Option.bind_some, hT, kj_i1, m_in, Option.bind_some, bI_nar, Option.bind_some]
  rfl
theorem m_bad (hl : ov_L 11 l h) (c d : Int32) : F_X6_isBad (mv_ l M h) (l 0) c d = some (nI 1, mv_ l (mW_ M (c, d)) h) := by
  unfold F_X6_isBad
  rw [mp_7 hl, Option.bind_some, mp_8 hl, Option.bind_some]
  rfl
theorem m_noG (hl : ov_L 11 l h) (x : Int32) : F_X6_isNoGiant (mv_ l M h) (l 0) x = some (mR_ l M h (if In_ (nI 0) (nI 1) x then none else some (nI 2, x))) := by
  unfold F_X6_isNoGiant
  by_cases hx : In_ (nI 0) (nI 1) x = true <;> simp [m_isG, bI_n, kj_l0, kj_i0, kj_i1, kj_i2, hx, mv_is hl, m_bad hl, mR_, show ¬ nI 1 = nI 0 by decide]
theorem m_noL (hl : ov_L 11 l h) (x : Int32) : F_X6_isNoLanding (mv_ l M h) (l 0) x = some (mR_ l M h (if In_ (nI 0) (nI 7) x then none else some (nI 2, x))) := by
  unfold F_X6_isNoLanding
  by_cases hx : In_ (nI 0) (nI 7) x = true <;> simp [m_isL, bI_n, kj_l0, kj_i0, kj_i1, kj_i2, hx, mv_is hl, m_bad hl, mR_, show ¬ nI 1 = nI 0 by decide]
theorem m_noS (hl : ov_L 11 l h) (hT : M 1 0 = nI n) (hn : n ≤ 10) (x : Int32) : F_X6_isNoStair (mv_ l M h) (l 0) x = some (mR_ l M h (qrTear_ n x)) := by
  unfold F_X6_isNoStair qrTear_
  by_cases hx : S_ n x = true <;> simp [m_S hl hT hn, bI_n, kj_l0, kj_i0, kj_i1, kj_i2, hx, mv_is hl, m_bad hl, mR_, show ¬ nI 1 = nI 0 by decide]
theorem m_to (hl : ov_L 11 l h) (hj : j < 10) (x : Int32) : F_X6_touches (mv_ l M h) (l 0) (nI j) x = some (bI_ (E_ (sT_ (M 1) j) x)) := by
  unfold F_X6_touches
  rw [mv_is hl, Option.bind_some, kj_i0, m_sv hl (by omega), Option.bind_some, Option.bind_some, kj_i1, m_sv hl (by omega), Option.bind_some]
  by_cases h1 : sT_ (M 1) j 0 = x
  · rw [if_pos h1, bI_t (E_iff.mpr (.inl h1))]
    rfl
  · rw [if_neg h1]
    by_cases h2 : sT_ (M 1) j 1 = x
    · rw [if_neg (fun q => q h2), bI_t (E_iff.mpr (.inr h2))]
      rfl
    · rw [if_pos h2, bI_f (fun q => (E_iff.mp q).elim h1 h2)]
      rfl
theorem m_ac (hl : ov_L 11 l h) (hj : j < 10) {x : Int32} (hx : E_ (sT_ (M 1) j) x = true) : F_X6_across (mv_ l M h) (l 0) (nI j) x = some (oth_ (sT_ (M 1) j) x) := by
  unfold F_X6_across oth_
  rw [mv_is hl, Option.bind_some, kj_i0, m_sv hl (by omega), Option.bind_some, Option.bind_some, kj_i1, m_sv hl (by omega), Option.bind_some]
  by_cases h1 : sT_ (M 1) j 0 = x
  · rw [if_pos h1, h1, Int32.add_comm, Int32.add_sub_cancel]
  · have h2 : sT_ (M 1) j 1 = x := (E_iff.mp hx).resolve_left h1
    rw [if_neg h1, h2, Int32.add_sub_cancel]
theorem m_rent (hl : ov_L 11 l h) (hj : j < 10) : F_X6_rentOf (mv_ l M h) (l 0) (nI j) = some (rent_ (sT_ (M 1) j)) := by
  unfold F_X6_rentOf rent_
  rw [mv_is hl, Option.bind_some, kj_i2, m_sv hl (by omega), Option.bind_some, kk_b8, fx_div_k (by decide), Option.bind_some, kj_i1]
theorem m_br (hl : ov_L 11 l h) (hj : j < 10) {x : Int32} (hx : ¬ x = m1_) : F_X6_takesBreaths (mv_ l M h) (l 0) x (nI j) = some (cost_ (sT_ (M 1) j) x) := by
  unfold F_X6_takesBreaths cost_
  rw [mv_is hl, Option.bind_some, kj_i5, m_sv hl (by omega), Option.bind_some, Option.bind_some, kj_i2, m_sv hl (by omega), Option.bind_some]
  by_cases h1 : sT_ (M 1) j 5 = x <;> simp [h1, hx]
theorem m_jo (hl : ov_L 11 l h) (hj : j < 10) (a b : Int32) : F_X6_joins (mv_ l M h) (l 0) (nI j) a b = some (bI_ ((sT_ (M 1) j 0 = a ∧ sT_ (M 1) j 1 = b) ∨ (sT_ (M 1) j 0 = b ∧ sT_ (M 1) j 1 = a))) := by
  unfold F_X6_joins F_X6_joins_B20
  simp only [mv_is hl, Option.bind_some, kj_i0, kj_i1, m_sv hl (show 34 + 7 * j + 0 < 110 by omega), m_sv hl (show 34 + 7 * j + 1 < 110 by omega)]
  by_cases h1 : sT_ (M 1) j 0 = a <;> by_cases h2 : sT_ (M 1) j 1 = b <;> by_cases h3 : sT_ (M 1) j 0 = b <;> by_cases h4 : sT_ (M 1) j 1 = a <;> simp [h1, h2, h3, h4, bI_] <;> simp_all
theorem m_jn (hl : ov_L 11 l h) (hT : M 1 0 = nI n) (hn : n ≤ 10) (I : I_ (M 1) n) (a b : Int32) : F_X6_stairBetween (mv_ l M h) (l 0) a b = some (oI_ (qJ_ (M 1) n a b)) := by
  unfold F_X6_stairBetween
  have key := lp_d (n := n) (f := fun m i => F_X6_stairBetween_L2 (mv_ l M h) m (l 0) a b (nI i)) (fun j => (decide (a ≠ b) && (E_ (sT_ (M 1) j) a && E_ (sT_ (M 1) j) b))) (fun i => .inl (nI i)) (fun m i hi => by
    rw [F_X6_stairBetween_L2]
    simp only [mv_is hl, mr_0 hl, Option.bind_some, kk_m2, kk_m3, kk_n1, kj_i0, kj_l0, kj_i1, kj_l1, kj_i2, kj_l2, kj_i3, kj_l3, kj_i4, kj_l4, kj_i5, kj_l5, kj_i6, kj_l6, kj_i7, kj_l7, kj_i8, kj_l8, kj_i9, kj_l9, kj_i10, kj_l10, kj_i11, kj_l11, kj_i12, kj_l12, kj_i13, kj_l13, kj_i14, kj_l14, kj_i15, kj_l15, kj_i16, kj_l16, kk_b6, kk_b7, kk_b8, kk_b9, kk_b10, kk_b11, kk_b12, kk_b13, kk_b14, kk_b15, kk_b16, kk_b20, kk_b40, nI_add, m_in, m_isL, m_isG, bI_n, ne_eq, Decidable.not_not, m_S hl hT hn, m_at hl (show 0 < 110 by decide), hT, mW_1]
    rw [if_neg (nI_ge hi (by omega))]
    simp only [mv_is hl, mr_0 hl, Option.bind_some, kk_m2, kk_m3, kk_n1, kj_i0, kj_l0, kj_i1, kj_l1, kj_i2, kj_l2, kj_i3, kj_l3, kj_i4, kj_l4, kj_i5, kj_l5, kj_i6, kj_l6, kj_i7, kj_l7, kj_i8, kj_l8, kj_i9, kj_l9, kj_i10, kj_l10, kj_i11, kj_l11, kj_i12, kj_l12, kj_i13, kj_l13, kj_i14, kj_l14, kj_i15, kj_l15, kj_i16, kj_l16, kk_b6, kk_b7, kk_b8, kk_b9, kk_b10, kk_b11, kk_b12, kk_b13, kk_b14, kk_b15, kk_b16, kk_b20, kk_b40, nI_add, m_in, m_isL, m_isG, bI_n, ne_eq, Decidable.not_not, m_S hl hT hn, m_at hl (show 0 < 110 by decide), hT, mW_1, m_jo hl (show i < 10 by omega)]
    obtain ⟨p, q, h1, h2, e1, e2⟩ := St_lo (I.2.2.2.2.1 i hi)
    have hne : ¬ sT_ (M 1) i 0 = sT_ (M 1) i 1 := by
      rw [e1, e2, nI_eq (by omega) (by omega)]
      omega
    have hE : ((sT_ (M 1) i 0 = a ∧ sT_ (M 1) i 1 = b) ∨ (sT_ (M 1) i 0 = b ∧ sT_ (M 1) i 1 = a)) ↔ (decide (a ≠ b) && (E_ (sT_ (M 1) i) a && E_ (sT_ (M 1) i) b)) = true := by
      simp only [Bool.and_eq_true, decide_eq_true_eq, E_iff]
      generalize sT_ (M 1) i 0 = x at hne ⊢
      generalize sT_ (M 1) i 1 = y at hne ⊢
      constructor
      · rintro (⟨rfl, rfl⟩ | ⟨rfl, rfl⟩)
        · exact ⟨hne, .inl rfl, .inr rfl⟩
        · exact ⟨fun q => hne q.symm, .inr rfl, .inl rfl⟩
      · rintro ⟨h1, h2, h3⟩
        rcases h2 with h2 | h2 <;> rcases h3 with h3 | h3
        · exact absurd (h2.symm.trans h3) h1
        · exact .inl ⟨h2, h3⟩
        · exact .inr ⟨h3, h2⟩
        · exact absurd (h2.symm.trans h3) h1
    by_cases hc : (decide (a ≠ b) && (E_ (sT_ (M 1) i) a && E_ (sT_ (M 1) i) b)) = true
    · rw [if_pos hc, if_neg (fun q => q (hE.mpr hc))]
    · rw [if_neg hc, if_pos (fun q => hc (hE.mp q))]) 1000 (by omega)
  rw [show ki 0 = nI 0 from rfl, key]
  unfold qJ_
  cases (List.range n).find? (fun j => (decide (a ≠ b) && (E_ (sT_ (M 1) j) a && E_ (sT_ (M 1) j) b))) with
  | some j => rfl
  | none =>
    dsimp only
    rw [show 1000 - n = (999 - n) + 1 from by omega, F_X6_stairBetween_L2]
    simp only [mv_is hl, mr_0 hl, Option.bind_some, kk_m2, kk_m3, kk_n1, kj_i0, kj_l0, kj_i1, kj_l1, kj_i2, kj_l2, kj_i3, kj_l3, kj_i4, kj_l4, kj_i5, kj_l5, kj_i6, kj_l6, kj_i7, kj_l7, kj_i8, kj_l8, kj_i9, kj_l9, kj_i10, kj_l10, kj_i11, kj_l11, kj_i12, kj_l12, kj_i13, kj_l13, kj_i14, kj_l14, kj_i15, kj_l15, kj_i16, kj_l16, kk_b6, kk_b7, kk_b8, kk_b9, kk_b10, kk_b11, kk_b12, kk_b13, kk_b14, kk_b15, kk_b16, kk_b20, kk_b40, nI_add, m_in, m_isL, m_isG, bI_n, ne_eq, Decidable.not_not, m_S hl hT hn, m_at hl (show 0 < 110 by decide), hT, mW_1]
    rw [if_pos (Int32.le_refl _)]
    rfl
theorem m_W (hl : ov_L 11 l h) (x : Int32) : F_X6_standing (mv_ l M h) (l 0) x = some (qW_ (M 1) x) := by
  unfold F_X6_standing qW_
  simp only [mv_is hl, Option.bind_some, kj_i0, kj_i1, kk_m2, m_gv hl (show 12 + 5 * 0 + 1 < 110 by decide), m_gv hl (show 12 + 5 * 1 + 1 < 110 by decide)]
  by_cases h1 : gT_ (M 1) 0 1 = x <;> by_cases h2 : gT_ (M 1) 1 1 = x <;> simp [h1, h2]
theorem m_L (hl : ov_L 11 l h) (o : Int32) : F_X6_landingsOf (mv_ l M h) (l 0) o = some (qL_ (M 1) o) := by
  unfold F_X6_landingsOf
  have key := lp_o (n := 8) (f := fun m i x => F_X6_landingsOf_L4 (mv_ l M h) m (l 0) o x (nI i)) (fun i x => if oT_ (M 1) i = o then x + nI 1 else x) (fun m i x hi => by
    rw [F_X6_landingsOf_L4, kk_b8, if_neg (nI_ge hi (by decide))]
    simp only [mv_is hl, Option.bind_some, m_ow hl hi, kj_i0, kj_i1, nI_add]
    by_cases h1 : oT_ (M 1) i = o
    · simp [h1]
    · simp [h1, show x + nI 0 = x from Int32.add_zero x]) (nI 0) 1000 (by omega)
  rw [show ki 0 = nI 0 from rfl, key, show 1000 - 8 = 991 + 1 from rfl, F_X6_landingsOf_L4, kk_b8, if_pos (Int32.le_refl _), Option.bind_some]
  rfl
theorem m_price (hl : ov_L 11 l h) (hk : k < 8) : F_X6_priceOf (mv_ l M h) (l 0) (nI k) = some (price_ (M 1) k) := by
  unfold F_X6_priceOf price_
  simp only [mv_is hl, Option.bind_some, m_ow hl hk, kj_i2, kj_i5, kk_b10]
  by_cases h1 : oT_ (M 1) k = nI 2 <;> simp [h1]
theorem m_X (hl : ov_L 11 l h) (hT : M 1 0 = nI n) (hn : n ≤ 10) (I : I_ (M 1) n) (a b : Int32) : F_X6_isJoined (mv_ l M h) (l 0) a b = some (bI_ (qX_ (M 1) n a b)) := by
  unfold F_X6_isJoined
  have key := lp_d (n := n) (f := fun m i => F_X6_isJoined_L2 (mv_ l M h) m (l 0) a b (nI i)) (fun j => E_ (sT_ (M 1) j) a && decide (oT_ (M 1) (cl_ (oth_ (sT_ (M 1) j) a)) = b)) (fun _ => .inl (nI 1)) (fun m i hi => by
    rw [F_X6_isJoined_L2]
    simp only [mv_is hl, mr_0 hl, Option.bind_some, kk_m2, kk_m3, kk_n1, kj_i0, kj_l0, kj_i1, kj_l1, kj_i2, kj_l2, kj_i3, kj_l3, kj_i4, kj_l4, kj_i5, kj_l5, kj_i6, kj_l6, kj_i7, kj_l7, kj_i8, kj_l8, kj_i9, kj_l9, kj_i10, kj_l10, kj_i11, kj_l11, kj_i12, kj_l12, kj_i13, kj_l13, kj_i14, kj_l14, kj_i15, kj_l15, kj_i16, kj_l16, kk_b6, kk_b7, kk_b8, kk_b9, kk_b10, kk_b11, kk_b12, kk_b13, kk_b14, kk_b15, kk_b16, kk_b20, kk_b40, nI_add, m_in, m_isL, m_isG, bI_n, ne_eq, Decidable.not_not, m_S hl hT hn, m_at hl (show 0 < 110 by decide), hT, mW_1]
    rw [if_neg (nI_ge hi (by omega))]
    simp only [mv_is hl, mr_0 hl, Option.bind_some, kk_m2, kk_m3, kk_n1, kj_i0, kj_l0, kj_i1, kj_l1, kj_i2, kj_l2, kj_i3, kj_l3, kj_i4, kj_l4, kj_i5, kj_l5, kj_i6, kj_l6, kj_i7, kj_l7, kj_i8, kj_l8, kj_i9, kj_l9, kj_i10, kj_l10, kj_i11, kj_l11, kj_i12, kj_l12, kj_i13, kj_l13, kj_i14, kj_l14, kj_i15, kj_l15, kj_i16, kj_l16, kk_b6, kk_b7, kk_b8, kk_b9, kk_b10, kk_b11, kk_b12, kk_b13, kk_b14, kk_b15, kk_b16, kk_b20, kk_b40, nI_add, m_in, m_isL, m_isG, bI_n, ne_eq, Decidable.not_not, m_S hl hT hn, m_at hl (show 0 < 110 by decide), hT, mW_1, m_to hl (show i < 10 by omega)]
    by_cases hc : E_ (sT_ (M 1) i) a = true
    · have ho := oth_nI I hi a
      have ho2 := oc_lt I hi a
      simp only [m_ac hl (show i < 10 by omega) hc, ho, mv_is hl, mr_0 hl, Option.bind_some, kk_m2, kk_m3, kk_n1, kj_i0, kj_l0, kj_i1, kj_l1, kj_i2, kj_l2, kj_i3, kj_l3, kj_i4, kj_l4, kj_i5, kj_l5, kj_i6, kj_l6, kj_i7, kj_l7, kj_i8, kj_l8, kj_i9, kj_l9, kj_i10, kj_l10, kj_i11, kj_l11, kj_i12, kj_l12, kj_i13, kj_l13, kj_i14, kj_l14, kj_i15, kj_l15, kj_i16, kj_l16, kk_b6, kk_b7, kk_b8, kk_b9, kk_b10, kk_b11, kk_b12, kk_b13, kk_b14, kk_b15, kk_b16, kk_b20, kk_b40, nI_add, m_in, m_isL, m_isG, bI_n, ne_eq, Decidable.not_not, m_S hl hT hn, m_at hl (show 0 < 110 by decide), hT, mW_1, m_ow hl ho2, cl_nI (show oc_ (M 1) a i < 2 ^ 31 by omega)]
      by_cases h2 : oT_ (M 1) (oc_ (M 1) a i) = b <;> simp [hc, h2]
    · simp [hc]) 1000 (by omega)
  rw [show ki 0 = nI 0 from rfl, key]
  have hq : qX_ (M 1) n a b = ((List.range n).find? (fun j => E_ (sT_ (M 1) j) a && decide (oT_ (M 1) (cl_ (oth_ (sT_ (M 1) j) a)) = b))).isSome := by
    unfold qX_
    exact Bool.eq_iff_iff.mpr (by rw [List.find?_isSome, List.any_eq_true])
  rw [hq]
  cases (List.range n).find? (fun j => E_ (sT_ (M 1) j) a && decide (oT_ (M 1) (cl_ (oth_ (sT_ (M 1) j) a)) = b)) with
  | some j => rfl
  | none =>
    dsimp only
    rw [show 1000 - n = (999 - n) + 1 from by omega, F_X6_isJoined_L2]
    simp only [mv_is hl, mr_0 hl, Option.bind_some, kk_m2, kk_m3, kk_n1, kj_i0, kj_l0, kj_i1, kj_l1, kj_i2, kj_l2, kj_i3, kj_l3, kj_i4, kj_l4, kj_i5, kj_l5, kj_i6, kj_l6, kj_i7, kj_l7, kj_i8, kj_l8, kj_i9, kj_l9, kj_i10, kj_l10, kj_i11, kj_l11, kj_i12, kj_l12, kj_i13, kj_l13, kj_i14, kj_l14, kj_i15, kj_l15, kj_i16, kj_l16, kk_b6, kk_b7, kk_b8, kk_b9, kk_b10, kk_b11, kk_b12, kk_b13, kk_b14, kk_b15, kk_b16, kk_b20, kk_b40, nI_add, m_in, m_isL, m_isG, bI_n, ne_eq, Decidable.not_not, m_S hl hT hn, m_at hl (show 0 < 110 by decide), hT, mW_1]
    rw [if_pos (Int32.le_refl _)]
    rfl
end MR

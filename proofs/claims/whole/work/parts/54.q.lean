/-! questions -/
theorem pc_ok (h : mm_S) : ∀ m, m < 256 → F_J6_bitCount_0f7a4 h (nI m) = some (nI (ct_ (fun i => m.testBit i) 8)) := by
  unfold F_J6_bitCount_0f7a4
  decide +kernel
theorem pc_s {m c : Nat} (hc : c < 8) (hm : ¬ m.testBit c = true) : ct_ (fun i => (m ||| 2 ^ c).testBit i) 8 = ct_ (fun i => m.testBit i) 8 + 1 := by
  have e : (fun i => (m ||| 2 ^ c).testBit i) = va_up (fun i => m.testBit i) c true := by
    funext i
    by_cases q : i = c
    · rw [q, va_up_self, Nat.testBit_or, Nat.testBit_two_pow_self, Bool.or_true]
    · rw [va_up_ne _ _ q, Nat.testBit_or, Nat.testBit_two_pow_of_ne (fun z => q z.symm), Bool.or_false]
  rw [e, ct_up hc (by simpa using hm)]
def qA_ (T : Nat → Int32) (n : Nat) (a : Int32) : Int32 := fo_ (fun j x => if E_ (sT_ T j) a = true then x + nI 1 else x) (nI 0) n
section QQ
variable {l g : Nat → Nat} {w : Nat → Nat → Int32} {h : mm_S} {i k j b n x0 : Nat} {v : Int32} {T : Nat → Int32} {M : Nat → Nat → Int32}
theorem oc_inj (I : I_ T n) {a : Int32} {i j : Nat} (hi : i < n) (hj : j < n) (ei : E_ (sT_ T i) a = true) (ej : E_ (sT_ T j) a = true) (e : oc_ T a i = oc_ T a j) : i = j := by
  have key : ∀ i j, i < j → j < n → E_ (sT_ T i) a = true → E_ (sT_ T j) a = true → oc_ T a i = oc_ T a j → False := by
    intro i j hij hj ei ej e
    apply I.2.2.2.2.2.1 i j hij hj
    have o1 := oth_nI I (show i < n by omega) a
    have o2 := oth_nI I hj a
    obtain ⟨p, q, h1, h2, e1, e2⟩ := St_lo (I.2.2.2.2.1 i (by omega))
    obtain ⟨p', q', h1', h2', e1', e2'⟩ := St_lo (I.2.2.2.2.1 j hj)
    rw [e] at o1
    unfold oth_ at o1 o2
    rcases E_iff.mp ei with z | z <;> rcases E_iff.mp ej with z' | z'
    · rw [if_pos z] at o1
      rw [if_pos z'] at o2
      exact ⟨z.trans z'.symm, o1.trans o2.symm⟩
    · have hne : ¬ sT_ T j 0 = a := fun y => by
        rw [← z', e1', e2', nI_eq (by omega) (by omega)] at y
        omega
      rw [if_pos z] at o1
      rw [if_neg hne] at o2
      have r1 : nI p = nI q' := by rw [← e1, ← e2', z, z']
      have r2 : nI q = nI p' := by rw [← e2, ← e1', o1, o2]
      rw [nI_eq (by omega) (by omega)] at r1 r2
      omega
    · have hne : ¬ sT_ T i 0 = a := fun y => by
        rw [← z, e1, e2, nI_eq (by omega) (by omega)] at y
        omega
      rw [if_neg hne] at o1
      rw [if_pos z'] at o2
      have r1 : nI q = nI p' := by rw [← e2, ← e1', z, z']
      have r2 : nI p = nI q' := by rw [← e1, ← e2', o1, o2]
      rw [nI_eq (by omega) (by omega)] at r1 r2
      omega
    · have hne : ¬ sT_ T i 0 = a := fun y => by
        rw [← z, e1, e2, nI_eq (by omega) (by omega)] at y
        omega
      have hne' : ¬ sT_ T j 0 = a := fun y => by
        rw [← z', e1', e2', nI_eq (by omega) (by omega)] at y
        omega
      rw [if_neg hne] at o1
      rw [if_neg hne'] at o2
      exact ⟨o1.trans o2.symm, z.trans z'.symm⟩
  rcases Nat.lt_trichotomy i j with q | q | q
  · exact (key i j q hj ei ej e).elim
  · exact q
  · exact (key j i q hi ej ei e.symm).elim
theorem pc_n (I : I_ T n) (a : Int32) : ∀ m, m ≤ n → nI (ct_ (fun i => (mB_ (fun j => E_ (sT_ T j) a) (oc_ T a) m).testBit i) 8) = fo_ (fun j x => if E_ (sT_ T j) a = true then x + nI 1 else x) (nI 0) m
  | 0, _ => by
    show nI (ct_ (fun i => (0 : Nat).testBit i) 8) = nI 0
    have e : (fun i => (0 : Nat).testBit i) = fun _ => false := by
      funext i
      exact Nat.zero_testBit i
    rw [e]
    rfl
  | m + 1, hm => by
    have ih := pc_n I a m (by omega)
    show nI (ct_ (fun i => (if E_ (sT_ T m) a = true then mB_ _ _ m ||| 2 ^ oc_ T a m else mB_ _ _ m).testBit i) 8) = if E_ (sT_ T m) a = true then fo_ _ _ m + nI 1 else fo_ _ _ m
    by_cases he : E_ (sT_ T m) a = true
    · rw [if_pos he, ← ih, nI_add]
      have hno : ¬ (mB_ (fun j => E_ (sT_ T j) a) (oc_ T a) m).testBit (oc_ T a m) = true := fun q => by
        obtain ⟨j, hj, ej, e⟩ := mB_bit.mp q
        have := oc_inj I (show j < n by omega) (show m < n by omega) ej he e
        omega
      have := pc_s (oc_lt I (show m < n by omega) a) hno
      simp only [if_pos he]
      rw [this]
    · rw [if_neg he, ← ih]
      simp only [if_neg he]
theorem pc_q (I : I_ T n) (h : mm_S) (a : Int32) : F_J6_bitCount_0f7a4 h (qB_ T n a) = some (qA_ T n a) := by
  obtain ⟨e, hlt⟩ := qB_nI I a
  rw [e, pc_ok h _ hlt]
  exact congrArg some (pc_n I a n (Nat.le_refl _))
/-! more of the reference's loops -/
theorem m_M (hl : ov_L 11 l h) (hT : M 1 0 = nI n) (hn : n ≤ 10) (o : Int32) : F_X6_leasedTo (mv_ l M h) (l 0) o = some (qM_ (M 1) n o) := by
  unfold F_X6_leasedTo
  have key := lp_o (n := n) (f := fun m i x => F_X6_leasedTo_L4 (mv_ l M h) m (l 0) o x (nI i)) (fun j x => if sT_ (M 1) j 5 = o then x + nI 1 else x) (fun m i x hi => by
    rw [F_X6_leasedTo_L4, mr_0 hl, Option.bind_some, kj_i0, m_at hl (by decide), Option.bind_some, hT, if_neg (nI_ge hi (by omega)), mv_is hl, Option.bind_some, kj_i5, m_sv hl (by omega), Option.bind_some]
    by_cases h1 : sT_ (M 1) i 5 = o
    · simp [h1, kj_i1, nI_add]
    · simp [h1, kj_i1, nI_add, show x + nI 0 = x from Int32.add_zero x]) (nI 0) 1000 (by omega)
  rw [show ki 0 = nI 0 from rfl, key, show 1000 - n = (999 - n) + 1 from by omega, F_X6_leasedTo_L4, mr_0 hl, Option.bind_some, kj_i0, m_at hl (by decide), Option.bind_some, hT, if_pos (Int32.le_refl _), Option.bind_some]
  rfl
theorem m_U (hl : ov_L 11 l h) (hT : M 1 0 = nI n) (hn : n ≤ 10) (hk : k < 7) : F_X6_sumOf (mv_ l M h) (l 0) (nI k) = some (qU_ (M 1) k n) := by
  unfold F_X6_sumOf
  have key := lp_o (n := n) (f := fun m i x => F_X6_sumOf_L4 (mv_ l M h) m (l 0) (nI k) x (nI i)) (fun j x => x + sT_ (M 1) j k) (fun m i x hi => by
    rw [F_X6_sumOf_L4, mr_0 hl, Option.bind_some, kj_i0, m_at hl (by decide), Option.bind_some, hT, if_neg (nI_ge hi (by omega)), mv_is hl, Option.bind_some, m_sv hl (by omega), Option.bind_some, nI_s]) (nI 0) 1000 (by omega)
  rw [show ki 0 = nI 0 from rfl, key, show 1000 - n = (999 - n) + 1 from by omega, F_X6_sumOf_L4, mr_0 hl, Option.bind_some, kj_i0, m_at hl (by decide), Option.bind_some, hT, if_pos (Int32.le_refl _), Option.bind_some]
  rfl
theorem m_A (hl : ov_L 11 l h) (hT : M 1 0 = nI n) (hn : n ≤ 10) (a : Int32) : F_X6_stairsAt (mv_ l M h) (l 0) a = some (qA_ (M 1) n a) := by
  unfold F_X6_stairsAt
  have key := lp_o (n := n) (f := fun m i x => F_X6_stairsAt_L4 (mv_ l M h) m (l 0) a x (nI i)) (fun j x => if E_ (sT_ (M 1) j) a = true then x + nI 1 else x) (fun m i x hi => by
    rw [F_X6_stairsAt_L4, mr_0 hl, Option.bind_some, kj_i0, m_at hl (by decide), Option.bind_some, hT, if_neg (nI_ge hi (by omega)), mv_is hl, Option.bind_some, m_to hl (by omega), Option.bind_some]
    by_cases h1 : E_ (sT_ (M 1) i) a = true
    · rw [if_neg (fun q => bI_0.mp q h1), if_pos h1, nI_s, kj_i1]
    · rw [if_pos (bI_0.mpr h1), if_neg h1, nI_s, show x + nI 0 = x from Int32.add_zero x]) (nI 0) 1000 (by omega)
  rw [show ki 0 = nI 0 from rfl, key, show 1000 - n = (999 - n) + 1 from by omega, F_X6_stairsAt_L4, mr_0 hl, Option.bind_some, kj_i0, m_at hl (by decide), Option.bind_some, hT, if_pos (Int32.le_refl _), Option.bind_some]
  rfl
theorem m_B (hl : ov_L 11 l h) (hT : M 1 0 = nI n) (hn : n ≤ 10) (a : Int32) : F_X6_joinedTo (mv_ l M h) (l 0) a = some (qB_ (M 1) n a) := by
  unfold F_X6_joinedTo
  have key := lp_o (n := n) (f := fun m i x => F_X6_joinedTo_L4 (mv_ l M h) m (l 0) a x (nI i)) (fun j x => if E_ (sT_ (M 1) j) a = true then x ||| (nI 1 <<< (oth_ (sT_ (M 1) j) a &&& 31)) else x) (fun m i x hi => by
    rw [F_X6_joinedTo_L4, mr_0 hl, Option.bind_some, kj_i0, m_at hl (by decide), Option.bind_some, hT, if_neg (nI_ge hi (by omega)), mv_is hl, Option.bind_some, m_to hl (by omega), Option.bind_some]
    by_cases h1 : E_ (sT_ (M 1) i) a = true
    · rw [if_neg (fun q => bI_0.mp q h1), if_pos h1, Option.bind_some, m_ac hl (by omega) h1, Option.bind_some, nI_s, kj_i1]
    · rw [if_pos (bI_0.mpr h1), if_neg h1, nI_s, show x ||| nI 0 = x from Int32.or_zero]) (nI 0) 1000 (by omega)
  rw [show ki 0 = nI 0 from rfl, key, show 1000 - n = (999 - n) + 1 from by omega, F_X6_joinedTo_L4, mr_0 hl, Option.bind_some, kj_i0, m_at hl (by decide), Option.bind_some, hT, if_pos (Int32.le_refl _), Option.bind_some]
  rfl
theorem m_key (hl : ov_L 11 l h) (hj : j < 10) (x : Int32) : F_X6_measured (mv_ l M h) (l 0) (nI j) x = some (key_ (sT_ (M 1) j) x) := by
  unfold F_X6_measured key_
  have h2 : 34 + 7 * j + 2 < 110 := by omega
  have h3 : 34 + 7 * j + 3 < 110 := by omega
  have h6 : 34 + 7 * j + 6 < 110 := by omega
  simp only [mv_is hl, mr_0 hl, Option.bind_some, kk_m2, kk_m3, kk_n1, kj_i0, kj_l0, kj_i1, kj_l1, kj_i2, kj_l2, kj_i3, kj_l3, kj_i4, kj_l4, kj_i5, kj_l5, kj_i6, kj_l6, kj_i7, kj_l7, kj_i8, kj_l8, kj_i9, kj_l9, kj_i10, kj_l10, kj_i11, kj_l11, kj_i12, kj_l12, kj_i13, kj_l13, kj_i14, kj_l14, kj_i15, kj_l15, kj_i16, kj_l16, kk_b6, kk_b7, kk_b8, kk_b9, kk_b10, kk_b11, kk_b12, kk_b13, kk_b14, kk_b15, kk_b16, kk_b20, kk_b40, nI_add, mT_1, mT_T, mT_s, m_sv hl h2, m_sv hl h3, m_sv hl h6, m_rent hl hj]
  by_cases e0 : x = nI 0
  · simp [e0]
  · by_cases e1 : x = nI 1
    · simp [e1, n10]
    · by_cases e2 : x = nI 2
      · simp [e2, show ¬ nI 2 = nI 0 by decide, show ¬ nI 2 = nI 1 by decide]
      · simp [e0, e1, e2]
/-- the place in an order -/
theorem m_P (hl : ov_L 11 l h) (hT : M 1 0 = nI n) (hn : n ≤ 10) (hj : j < n) (kd pl : Int32) : F_X6_ranked_L38 1000 (l 0) kd pl (nI j) (nI 0) (nI 0) (mv_ l M h) = some (qP_ (M 1) n j kd, mv_ l M h) := by
  have key := lp_o (n := n) (f := fun m i x => F_X6_ranked_L38 m (l 0) kd pl (nI j) x (nI i) (mv_ l M h)) (fun o x => if key_ (sT_ (M 1) j) kd < key_ (sT_ (M 1) o) kd ∨ key_ (sT_ (M 1) o) kd = key_ (sT_ (M 1) j) kd ∧ o < j then x + nI 1 else x) (fun m i x hi => by
    rw [F_X6_ranked_L38, mr_0 hl, Option.bind_some, kj_i0, m_at hl (by decide), Option.bind_some, hT, if_neg (nI_ge hi (by omega)), mv_is hl, Option.bind_some, m_key hl (show i < 10 by omega), m_key hl (show j < 10 by omega)]
    simp only [Option.bind_some, nI_s, kj_i1, show x + nI 0 = x from Int32.add_zero x, nI_1, nI_add, nI_leI (show j < 2 ^ 31 by omega) (show i < 2 ^ 31 by omega)]
    by_cases h1 : key_ (sT_ (M 1) j) kd < key_ (sT_ (M 1) i) kd
    · rw [if_pos h1, if_pos (.inl h1)]
    · rw [if_neg h1]
      by_cases h2 : key_ (sT_ (M 1) i) kd = key_ (sT_ (M 1) j) kd
      · rw [if_neg (fun q => q h2)]
        by_cases h3 : j ≤ i
        · rw [if_pos h3, if_neg (fun q => q.elim h1 (fun z => absurd z.2 (by omega)))]
        · rw [if_neg h3, if_pos (.inr ⟨h2, by omega⟩)]
      · rw [if_pos h2, if_neg (fun q => q.elim h1 (fun z => h2 z.1))]) (nI 0) 1000 (by omega)
  rw [key, show 1000 - n = (999 - n) + 1 from by omega, F_X6_ranked_L38, mr_0 hl, Option.bind_some, kj_i0, m_at hl (by decide), Option.bind_some, hT, if_pos (Int32.le_refl _)]
  rfl
end QQ

/-! days, build and tear of the reference; copies, begins, keeps, refused -/
section ME
variable {l : Nat → Nat} {M : Nat → Nat → Int32} {h : mm_S} {i k j b n : Nat} {v : Int32}
theorem tRent_0 {T : Nat → Int32} {j : Nat} : tRent_ T j 0 = T 0 := by
  unfold tRent_ tGive_ tEnd_
  split
  · split
    · split
      · rw [nS (by decide), nS (by decide), nS (by decide), pk_un (by decide), pk_un (by decide), nG (by decide), nG (by decide)]
      · rw [nS (by decide), pk_un (by decide), pk_un (by decide), nG (by decide), nG (by decide)]
    · rw [nS (by decide), nS (by decide)]
  · rfl
theorem tDays_0 {T : Nat → Int32} : ∀ i, (tDays_ T i).2 0 = T 0
  | 0 => rfl
  | i + 1 => by
    show tRent_ (tDust_ (tDays_ T i).2 i) i 0 = T 0
    rw [tRent_0]
    unfold tDust_
    rw [nS (by decide)]
    exact tDays_0 i
theorem m_days (hl : ov_L 11 l h) (hT : M 1 0 = nI n) (hn : n ≤ 10) (I : I_ (M 1) n) : F_X6_goesBy_L4 1000 (l 0) (nI 0) (nI 0) (mv_ l M h) = some ((tDays_ (M 1) n).1, mv_ l (mT_ M (tDays_ (M 1) n).2) h) := by
  obtain ⟨⟨x2, h2⟩, e, hp⟩ := lp_ (n := n) (f := fun m i (x : Int32 × mm_S) => F_X6_goesBy_L4 m (l 0) x.1 (nI i) x.2) (P := fun i x => x = ((tDays_ (M 1) i).1, mv_ l (mT_ M (tDays_ (M 1) i).2) h)) (fun m i x hi hp => by
    subst hp
    refine ⟨_, ?_, rfl⟩
    have J := I_days I i (by omega)
    have h0 : (tDays_ (M 1) i).2 0 = nI n := by rw [tDays_0, hT]
    have eN : tDays_ (M 1) (i + 1) = ((tDays_ (M 1) i).1 + tRentN_ (tDust_ (tDays_ (M 1) i).2 i) i, tRent_ (tDust_ (tDays_ (M 1) i).2 i) i) := rfl
    rw [eN]
    generalize tDays_ (M 1) i = Z at J h0 ⊢
    obtain ⟨z, U⟩ := Z
    dsimp only at J h0 ⊢
    have JD := I_dust J hi
    have eM : mT_ M U 1 = U := mT_1
    have g3 : 34 + 7 * i + 3 < 110 := by omega
    have g2 : 34 + 7 * i + 2 < 110 := by omega
    rw [F_X6_goesBy_L4]
    simp only [mv_is hl, mr_0 hl, Option.bind_some, kk_m2, kk_m3, kk_n1, kj_i0, kj_l0, kj_i1, kj_l1, kj_i2, kj_l2, kj_i3, kj_l3, kj_i4, kj_l4, kj_i5, kj_l5, kj_i6, kj_l6, kj_i7, kj_l7, kj_i8, kj_l8, kj_i9, kj_l9, kj_i10, kj_l10, kj_i11, kj_l11, kj_i12, kj_l12, kj_i13, kj_l13, kj_i14, kj_l14, kj_i15, kj_l15, kj_i16, kj_l16, kk_b6, kk_b7, kk_b8, kk_b9, kk_b10, kk_b11, kk_b12, kk_b13, kk_b14, kk_b15, kk_b16, kk_b20, kk_b40, nI_add, mT_1, mT_T, mT_s, m_at hl (show 0 < 110 by decide), h0]
    rw [if_neg (nI_ge hi (by omega))]
    have eg := m_gives (M := mT_ M (tDust_ U i)) (h := h) hl hn (by rw [mT_1]; exact JD.2.2.2.2.1 i hi) hi
    have eD : tS_ U i 3 (tMore_ (sT_ U i 3) (nI 1 + sT_ U i 2 / nI 5)) = tDust_ U i := rfl
    simp only [mv_is hl, mr_0 hl, Option.bind_some, kk_m2, kk_m3, kk_n1, kj_i0, kj_l0, kj_i1, kj_l1, kj_i2, kj_l2, kj_i3, kj_l3, kj_i4, kj_l4, kj_i5, kj_l5, kj_i6, kj_l6, kj_i7, kj_l7, kj_i8, kj_l8, kj_i9, kj_l9, kj_i10, kj_l10, kj_i11, kj_l11, kj_i12, kj_l12, kj_i13, kj_l13, kj_i14, kj_l14, kj_i15, kj_l15, kj_i16, kj_l16, kk_b6, kk_b7, kk_b8, kk_b9, kk_b10, kk_b11, kk_b12, kk_b13, kk_b14, kk_b15, kk_b16, kk_b20, kk_b40, nI_add, mT_1, mT_T, mT_s, m_sv hl g3, m_sv hl g2, fx_div_k (show ¬ nI 5 = 0 by decide), m_dust hl, m_ls hl g3, eD, eg]) n 0 (nI 0, mv_ l M h) 1000 (by omega) (by
      show _ = (nI 0, mv_ l (mT_ M (M 1)) h)
      rw [mT_s]) (by omega)
  dsimp only at e
  rw [e, show 1000 - n = (999 - n) + 1 from by omega]
  cases hp
  rw [F_X6_goesBy_L4]
  simp only [mv_is hl, mr_0 hl, Option.bind_some, kk_m2, kk_m3, kk_n1, kj_i0, kj_l0, kj_i1, kj_l1, kj_i2, kj_l2, kj_i3, kj_l3, kj_i4, kj_l4, kj_i5, kj_l5, kj_i6, kj_l6, kj_i7, kj_l7, kj_i8, kj_l8, kj_i9, kj_l9, kj_i10, kj_l10, kj_i11, kj_l11, kj_i12, kj_l12, kj_i13, kj_l13, kj_i14, kj_l14, kj_i15, kj_l15, kj_i16, kj_l16, kk_b6, kk_b7, kk_b8, kk_b9, kk_b10, kk_b11, kk_b12, kk_b13, kk_b14, kk_b15, kk_b16, kk_b20, kk_b40, nI_add, mT_1, mT_T, mT_s, m_at hl (show 0 < 110 by decide), tDays_0, hT]
  rw [if_pos (Int32.le_refl _)]
theorem m_day (hl : ov_L 11 l h) (hT : M 1 0 = nI n) (hn : n ≤ 10) (I : I_ (M 1) n) : F_X6_goesBy (mv_ l M h) (l 0) = some ((tDays_ (M 1) n).1, mv_ l (mT_ M (tDay_ (M 1) n)) h) := by
  unfold F_X6_goesBy tDay_
  rw [show ki 0 = nI 0 from rfl, m_days hl hT hn I]
  simp [mv_is hl, mr_0 hl, Option.bind_some, kk_m2, kk_m3, kk_n1, kj_i0, kj_l0, kj_i1, kj_l1, kj_i2, kj_l2, kj_i3, kj_l3, kj_i4, kj_l4, kj_i5, kj_l5, kj_i6, kj_l6, kj_i7, kj_l7, kj_i8, kj_l8, kj_i9, kj_l9, kj_i10, kj_l10, kj_i11, kj_l11, kj_i12, kj_l12, kj_i13, kj_l13, kj_i14, kj_l14, kj_i15, kj_l15, kj_i16, kj_l16, kk_b6, kk_b7, kk_b8, kk_b9, kk_b10, kk_b11, kk_b12, kk_b13, kk_b14, kk_b15, kk_b16, kk_b20, kk_b40, nI_add, mT_1, mT_T, mT_s, m_at hl (show 1 < 110 by decide), m_st hl (show 1 < 110 by decide), m_at hl (show 3 < 110 by decide), m_st hl (show 3 < 110 by decide), pk_un]
theorem m_noE (hl : ov_L 11 l h) (x : Int32) : F_X6_no (mv_ l M h) (l 0) x = some (nI 0, mv_ l (w2_ M 0 5 x) h) := by
  unfold F_X6_no
  rw [mp_5 hl, Option.bind_some]
  rfl
def mF_ (M : Nat → Nat → Int32) : Nat → Nat → Int32 := w2_ (w2_ (w2_ (w2_ M 0 9 (M 0 7)) 0 10 (M 0 8)) 0 11 (nI 0)) 0 5 (nI 1)
theorem m_refused (hl : ov_L 11 l h) : F_X6_refused (mv_ l M h) (l 0) = some (nI 0, mv_ l (mF_ M) h) := by
  unfold F_X6_refused mF_
  simp [mv_is hl, mr_0 hl, Option.bind_some, kk_m2, kk_m3, kk_n1, kj_i0, kj_l0, kj_i1, kj_l1, kj_i2, kj_l2, kj_i3, kj_l3, kj_i4, kj_l4, kj_i5, kj_l5, kj_i6, kj_l6, kj_i7, kj_l7, kj_i8, kj_l8, kj_i9, kj_l9, kj_i10, kj_l10, kj_i11, kj_l11, kj_i12, kj_l12, kj_i13, kj_l13, kj_i14, kj_l14, kj_i15, kj_l15, kj_i16, kj_l16, kk_b6, kk_b7, kk_b8, kk_b9, kk_b10, kk_b11, kk_b12, kk_b13, kk_b14, kk_b15, kk_b16, kk_b20, kk_b40, nI_add, mT_1, mT_T, mT_s, mg_7 hl, mg_8 hl, mp_9 hl, mp_10 hl, mp_11 hl, m_noE hl, w2_n2]
/-- a row copied -/
def mC_ (M : Nat → Nat → Int32) (i a j c n : Nat) : Nat → Nat → Int32 := fun x => if x = j then (fun k => if c ≤ k ∧ k < c + n then M i (a + (k - c)) else M j k) else M x
theorem mC_0 {i a j c : Nat} : mC_ M i a j c 0 = M := by
  funext x k
  unfold mC_
  by_cases e : x = j
  · rw [if_pos e, if_neg (by omega), e]
  · rw [if_neg e]
theorem mC_v {i a j c n x k : Nat} : mC_ M i a j c n x k = if x = j ∧ c ≤ k ∧ k < c + n then M i (a + (k - c)) else M x k := by
  unfold mC_
  by_cases e : x = j
  · subst e
    rw [if_pos rfl]
    by_cases e2 : c ≤ k ∧ k < c + n
    · rw [if_pos e2, if_pos ⟨rfl, e2⟩]
    · rw [if_neg e2, if_neg (fun q => e2 q.2)]
  · rw [if_neg e, if_neg (fun q => e q.1)]
theorem mC_s {i a j c m : Nat} (hd : i ≠ j ∨ c + m ≤ a + m ∨ a + m < c) : w2_ (mC_ M i a j c m) j (c + m) (mC_ M i a j c m i (a + m)) = mC_ M i a j c (m + 1) := by
  funext x k
  have e0 : mC_ M i a j c m i (a + m) = M i (a + m) := by
    rw [mC_v, if_neg]
    intro q
    rcases hd with q2 | q2
    · exact q2 q.1
    · omega
  rw [e0, mC_v]
  by_cases e : x = j ∧ k = c + m
  · rw [e.1, e.2, w2_at, if_pos (by omega), show c + m - c = m from by omega]
  · rw [w2_n2 e, mC_v]
    by_cases e2 : x = j ∧ c ≤ k ∧ k < c + m
    · rw [if_pos e2, if_pos (by omega)]
    · rw [if_neg e2, if_neg (by omega)]
theorem m_copies (hl : ov_L 11 l h) {i j a c ni nj : Nat} (hi : ∀ (M : Nat → Nat → Int32) k, k < ni → fx_aI (mv_ l M h) (l i) (nI k) = some (M i k)) (hj : ∀ (M : Nat → Nat → Int32) k v, k < nj → fx_sI (mv_ l M h) (l j) (nI k) v = some (mv_ l (w2_ M j k v) h)) (ha : a + 110 ≤ ni) (hc : c + 110 ≤ nj) (hd : i ≠ j ∨ c ≤ a ∨ a + 110 ≤ c) : F_X6_copies (mv_ l M h) (l i) (nI a) (l j) (nI c) = some (mv_ l (mC_ M i a j c 110) h) := by
  unfold F_X6_copies
  obtain ⟨x2, e, hp⟩ := lp_ (n := 110) (f := fun m k (x : mm_S) => F_X6_copies_L3 m (l i) (nI a) (l j) (nI c) (nI k) x) (P := fun k x => x = mv_ l (mC_ M i a j c k) h) (fun m k x hk hp => by
    subst hp
    refine ⟨_, ?_, rfl⟩
    rw [F_X6_copies_L3, kk_b110, if_neg (nI_ge hk (by decide)), nI_add, nI_add, hi _ _ (by omega), Option.bind_some, hj _ _ _ (by omega), Option.bind_some, mC_s (by omega), nI_s]) 110 0 (mv_ l M h) 1000 (by omega) (by rw [mC_0]) (by omega)
  subst hp
  rw [show ki 0 = nI 0 from rfl, e, show 1000 - 110 = 889 + 1 from rfl, F_X6_copies_L3, kk_b110, if_pos (Int32.le_refl _), Option.bind_some]
def mBg_ (M : Nat → Nat → Int32) : Nat → Nat → Int32 := mC_ (w2_ M 0 5 (nI 0)) 1 0 2 0 110
theorem m_begins (hl : ov_L 11 l h) : F_X6_begins (mv_ l M h) (l 0) = some (mv_ l (mBg_ M) h) := by
  unfold F_X6_begins mBg_
  rw [show ki 0 = nI 0 from rfl, mp_5 hl, Option.bind_some, mr_0 hl, Option.bind_some, mr_1 hl, Option.bind_some, m_copies hl (fun _ _ hk => ma_1 hl hk) (fun _ _ _ hk => ms_2 hl hk) (by decide) (by decide) (.inl (by decide)), Option.bind_some]
/-- the changes moved down by one -/
def mSh_ (M : Nat → Nat → Int32) (i : Nat) : Nat → Nat → Int32 := fun x => if x = 5 then (fun k => if k < 110 * (i - 1) then M 5 (k + 110) else M 5 k) else M x
theorem mSh_v {i x k : Nat} : mSh_ M i x k = if x = 5 ∧ k < 110 * (i - 1) then M 5 (k + 110) else M x k := by
  unfold mSh_
  by_cases e : x = 5
  · subst e
    rw [if_pos rfl]
    by_cases e2 : k < 110 * (i - 1)
    · rw [if_pos e2, if_pos ⟨rfl, e2⟩]
    · rw [if_neg e2, if_neg (fun q => e2 q.2)]
  · rw [if_neg e, if_neg (fun q => e q.1)]
theorem mSh_s {i : Nat} (hi : 1 ≤ i) : mC_ (mSh_ M i) 5 (110 * i) 5 (110 * (i - 1)) 110 = mSh_ M (i + 1) := by
  funext x k
  rw [mC_v, mSh_v, mSh_v, mSh_v]
  by_cases e : x = 5
  · by_cases e2 : 110 * (i - 1) ≤ k ∧ k < 110 * (i - 1) + 110
    · rw [if_pos ⟨e, e2⟩, if_neg (by omega), if_pos (by omega), show 110 * i + (k - 110 * (i - 1)) = k + 110 from by omega]
    · rw [if_neg (fun q => e2 q.2)]
      by_cases e3 : k < 110 * (i - 1)
      · rw [if_pos ⟨e, e3⟩, if_pos (by omega)]
      · rw [if_neg (fun q => e3 q.2), if_neg (by omega)]
  · rw [if_neg (fun q => e q.1), if_neg (fun q => e q.1), if_neg (fun q => e q.1)]
def mKB_ (M : Nat → Nat → Int32) (c : Nat) : Nat → Nat → Int32 := w2_ (mC_ M 2 0 5 (110 * c) 110) 0 6 (nI (c + 1))
theorem m_keepsB (hl : ov_L 11 l h) {c : Nat} (hc : c < 8) (e6 : M 0 6 = nI c) (x : Int32) : F_X6_keeps_B54 (mv_ l M h) (l 0) x = some (x, mv_ l (mKB_ M c) h) := by
  unfold F_X6_keeps_B54 mKB_
  have e : mC_ M 2 0 5 (110 * c) 110 0 6 = nI c := e6
  rw [mr_1 hl, Option.bind_some, mr_4 hl, Option.bind_some, mg_6 hl, Option.bind_some, e6, kk_b110, pk_mul, show ki 0 = nI 0 from rfl, m_copies hl (fun _ _ hk => ma_2 hl hk) (fun _ _ _ hk => ms_5 hl hk) (by decide) (by omega) (.inl (by decide)), Option.bind_some, mg_6 hl, Option.bind_some, e, mp_6 hl, Option.bind_some, nI_s]
theorem m_keepsL (hl : ov_L 11 l h) (x : Int32) : F_X6_keeps_L11 1000 (l 0) x (nI 1) (mv_ l M h) = some (mv_ l (mSh_ M 8) h) := by
  obtain ⟨x2, e, hp⟩ := lp_ (n := 8) (f := fun m k (y : mm_S) => F_X6_keeps_L11 m (l 0) x (nI k) y) (P := fun k y => 1 ≤ k ∧ y = mv_ l (mSh_ M k) h) (fun m k y hk hp => by
    obtain ⟨h1, rfl⟩ := hp
    refine ⟨_, ?_, by omega, rfl⟩
    rw [F_X6_keeps_L11, kk_b8, if_neg (nI_ge hk (by decide)), mr_4 hl, Option.bind_some, Option.bind_some, kk_b110, kj_i1, pk_mul, pk_sub h1, pk_mul, m_copies hl (fun _ _ hk => ma_5 hl hk) (fun _ _ _ hk => ms_5 hl hk) (by omega) (by omega) (.inr (.inl (by omega))), Option.bind_some, mSh_s h1, nI_add]) 7 1 (mv_ l M h) 1000 (by omega) ⟨by decide, by
      have e : mSh_ M 1 = M := by
        funext x k
        rw [mSh_v, if_neg (by omega)]
      rw [e]⟩ (by omega)
  obtain ⟨-, rfl⟩ := hp
  rw [e, show 1000 - 7 = 992 + 1 from rfl, F_X6_keeps_L11, kk_b8, if_pos (Int32.le_refl _)]
def mKp_ (M : Nat → Nat → Int32) (c : Nat) : Nat → Nat → Int32 := if c = 8 then mKB_ (w2_ (mSh_ M 8) 0 6 (nI 7)) 7 else mKB_ M c
theorem m_keeps (hl : ov_L 11 l h) {c : Nat} (hc : c ≤ 8) (e6 : M 0 6 = nI c) (x : Int32) : F_X6_keeps (mv_ l M h) (l 0) x = some (x, mv_ l (mKp_ M c) h) := by
  unfold F_X6_keeps mKp_
  rw [mg_6 hl, Option.bind_some, e6, kk_b8]
  by_cases h8 : c = 8
  · subst h8
    rw [if_neg (fun q => q rfl), if_pos rfl, kj_i1, m_keepsL hl, Option.bind_some, mg_6 hl, Option.bind_some, show mSh_ M 8 0 6 = nI 8 from e6, mp_6 hl, Option.bind_some, pk_sub (by decide), m_keepsB hl (by decide) w2_at]
  · rw [if_pos (fun q => h8 ((nI_eq (by omega) (by decide)).mp q)), if_neg h8, m_keepsB hl (by omega) e6]
end ME

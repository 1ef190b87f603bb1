section MF
variable {l : Nat → Nat} {M : Nat → Nat → Int32} {h : mm_S} {i k j b n : Nat} {v : Int32}
def z7_ (T : Nat → Int32) (j i : Nat) : Nat → Int32 := fun k => if 34 + 7 * j ≤ k ∧ k < 34 + 7 * j + i then nI 0 else T k
theorem z7_0 {T : Nat → Int32} : z7_ T j 0 = T := by
  funext k
  exact if_neg (by omega)
theorem z7_s {T : Nat → Int32} : tS_ (z7_ T j i) j i (nI 0) = z7_ T j (i + 1) := by
  funext k
  unfold tS_ z7_ upd
  by_cases e : k = 34 + 7 * j + i
  · rw [if_pos e, if_pos (by omega)]
  · rw [if_neg e]
    by_cases e2 : 34 + 7 * j ≤ k ∧ k < 34 + 7 * j + i
    · dsimp only
      rw [if_pos e2, if_pos (by omega)]
    · dsimp only
      rw [if_neg e2, if_neg (by omega)]
theorem m_zb (hl : ov_L 11 l h) (hj : j < 10) (a b s : Int32) : F_X6_builds_L11 1000 (l 0) a b s (nI j) (nI 0) (mv_ l M h) = some (mv_ l (mT_ M (z7_ (M 1) j 7)) h) := by
  obtain ⟨x2, e, hp⟩ := lp_ (n := 7) (f := fun m k (y : mm_S) => F_X6_builds_L11 m (l 0) a b s (nI j) (nI k) y) (P := fun k y => y = mv_ l (mT_ M (z7_ (M 1) j k)) h) (fun m k y hk hp => by
    subst hp
    refine ⟨_, ?_, rfl⟩
    rw [F_X6_builds_L11, kk_b7, if_neg (nI_ge hk (by decide)), mv_is hl, Option.bind_some, kj_i0, m_ls hl (by omega), Option.bind_some, mT_1, mT_T, z7_s, nI_s]) 7 0 (mv_ l M h) 1000 (by omega) (by rw [z7_0, mT_s]) (by omega)
  subst hp
  rw [e, show 1000 - 7 = 992 + 1 from rfl, F_X6_builds_L11, kk_b7, if_pos (Int32.le_refl _)]
theorem m_zt (hl : ov_L 11 l h) (hj : j < 10) : F_X6_tears_L59 1000 (l 0) (nI j) (nI 0) (mv_ l M h) = some (mv_ l (mT_ M (z7_ (M 1) j 7)) h) := by
  obtain ⟨x2, e, hp⟩ := lp_ (n := 7) (f := fun m k (y : mm_S) => F_X6_tears_L59 m (l 0) (nI j) (nI k) y) (P := fun k y => y = mv_ l (mT_ M (z7_ (M 1) j k)) h) (fun m k y hk hp => by
    subst hp
    refine ⟨_, ?_, rfl⟩
    rw [F_X6_tears_L59, kk_b7, if_neg (nI_ge hk (by decide)), mv_is hl, Option.bind_some, kj_i0, m_ls hl (by omega), Option.bind_some, mT_1, mT_T, z7_s, nI_s]) 7 0 (mv_ l M h) 1000 (by omega) (by rw [z7_0, mT_s]) (by omega)
  subst hp
  rw [e, show 1000 - 7 = 992 + 1 from rfl, F_X6_tears_L59, kk_b7, if_pos (Int32.le_refl _)]
theorem tB_eq {T : Nat → Int32} {n : Nat} {a b s lo hi : Int32} (h0 : T 0 = nI n) (hlo : lo = if b < a then b else a) (hhi : hi = if a < b then b else a) : upd (tS_ (tS_ (tS_ (tS_ (z7_ T n 7) n 0 lo) n 1 hi) n 2 s) n 5 m1_) 0 (nI (n + 1)) = tBuild_ T n a b s := by
  funext k
  unfold tBuild_
  by_cases e0 : k = 0
  · rw [e0, pk_us, if_pos rfl]
  · rw [pk_un e0, if_neg e0]
    by_cases e1 : 34 + 7 * n ≤ k ∧ k < 34 + 7 * n + 7
    · rw [if_pos e1]
      obtain ⟨c, hc, rfl⟩ : ∃ c, c < 7 ∧ k = 34 + 7 * n + c := ⟨k - (34 + 7 * n), by omega, by omega⟩
      rw [Nat.add_sub_cancel_left]
      unfold tS_
      match c, hc with
      | 0, _ => rw [pk_un (by omega), pk_un (by omega), pk_un (by omega), pk_us, hlo]; rfl
      | 1, _ => rw [pk_un (by omega), pk_un (by omega), pk_us, hhi]; rfl
      | 2, _ => rw [pk_un (by omega), pk_us]; rfl
      | 3, _ => rw [pk_un (by omega), pk_un (by omega), pk_un (by omega), pk_un (by omega)]; exact if_pos (by omega)
      | 4, _ => rw [pk_un (by omega), pk_un (by omega), pk_un (by omega), pk_un (by omega)]; exact if_pos (by omega)
      | 5, _ => rw [pk_us]; rfl
      | 6, _ => rw [pk_un (by omega), pk_un (by omega), pk_un (by omega), pk_un (by omega)]; exact if_pos (by omega)
    · rw [if_neg e1]
      unfold tS_
      rw [pk_un (by omega), pk_un (by omega), pk_un (by omega), pk_un (by omega)]
      exact if_neg e1
theorem m_build (hl : ov_L 11 l h) (hT : M 1 0 = nI n) (hn : n < 10) (a b s : Int32) : F_X6_builds (mv_ l M h) (l 0) a b s = some (nI n, mv_ l (mT_ M (tBuild_ (M 1) n a b s)) h) := by
  have h0 : 34 + 7 * n + 0 < 110 := by omega
  have h1 : 34 + 7 * n + 1 < 110 := by omega
  have h2 : 34 + 7 * n + 2 < 110 := by omega
  have h5 : 34 + 7 * n + 5 < 110 := by omega
  unfold F_X6_builds
  have ez : z7_ (M 1) n 7 0 = nI n := by
    unfold z7_
    rw [if_neg (by omega), hT]
  simp only [mv_is hl, mr_0 hl, Option.bind_some, kk_m2, kk_m3, kk_n1, kj_i0, kj_l0, kj_i1, kj_l1, kj_i2, kj_l2, kj_i3, kj_l3, kj_i4, kj_l4, kj_i5, kj_l5, kj_i6, kj_l6, kj_i7, kj_l7, kj_i8, kj_l8, kj_i9, kj_l9, kj_i10, kj_l10, kj_i11, kj_l11, kj_i12, kj_l12, kj_i13, kj_l13, kj_i14, kj_l14, kj_i15, kj_l15, kj_i16, kj_l16, kk_b6, kk_b7, kk_b8, kk_b9, kk_b10, kk_b11, kk_b12, kk_b13, kk_b14, kk_b15, kk_b16, kk_b20, kk_b40, nI_add, mT_1, mT_T, mT_s, m_at hl (show 0 < 110 by decide), hT, m_zb hl hn]
  by_cases hab : b ≤ a
  · rw [if_pos hab]
    unfold F_X6_builds_B47 F_X6_builds_B64
    have hhi : a = if a < b then b else a := by rw [if_neg (Int32.not_lt.mpr hab)]
    have hlo : b = if b < a then b else a := by
      by_cases q : b < a
      · rw [if_pos q]
      · rw [if_neg q]
        exact Int32.le_antisymm hab (Int32.not_lt.mp q)
    have eT := tB_eq (s := s) hT hlo hhi
    simp [hab, mv_is hl, mr_0 hl, Option.bind_some, kk_m2, kk_m3, kk_n1, kj_i0, kj_l0, kj_i1, kj_l1, kj_i2, kj_l2, kj_i3, kj_l3, kj_i4, kj_l4, kj_i5, kj_l5, kj_i6, kj_l6, kj_i7, kj_l7, kj_i8, kj_l8, kj_i9, kj_l9, kj_i10, kj_l10, kj_i11, kj_l11, kj_i12, kj_l12, kj_i13, kj_l13, kj_i14, kj_l14, kj_i15, kj_l15, kj_i16, kj_l16, kk_b6, kk_b7, kk_b8, kk_b9, kk_b10, kk_b11, kk_b12, kk_b13, kk_b14, kk_b15, kk_b16, kk_b20, kk_b40, nI_add, mT_1, mT_T, mT_s, m_ls hl h0, m_ls hl h1, m_ls hl h2, m_ls hl h5, m_at hl (show 0 < 110 by decide), m_st hl (show 0 < 110 by decide), nS, ez, eT]
  · rw [if_neg hab]
    unfold F_X6_builds_B47 F_X6_builds_B64
    have q := Int32.not_le.mp hab
    have hhi : b = if a < b then b else a := by rw [if_pos q]
    have hlo : a = if b < a then b else a := by rw [if_neg (fun z => Int32.lt_irrefl (Int32.lt_trans q z))]
    have eT := tB_eq (s := s) hT hlo hhi
    simp only [if_neg hab]
    simp [mv_is hl, mr_0 hl, Option.bind_some, kk_m2, kk_m3, kk_n1, kj_i0, kj_l0, kj_i1, kj_l1, kj_i2, kj_l2, kj_i3, kj_l3, kj_i4, kj_l4, kj_i5, kj_l5, kj_i6, kj_l6, kj_i7, kj_l7, kj_i8, kj_l8, kj_i9, kj_l9, kj_i10, kj_l10, kj_i11, kj_l11, kj_i12, kj_l12, kj_i13, kj_l13, kj_i14, kj_l14, kj_i15, kj_l15, kj_i16, kj_l16, kk_b6, kk_b7, kk_b8, kk_b9, kk_b10, kk_b11, kk_b12, kk_b13, kk_b14, kk_b15, kk_b16, kk_b20, kk_b40, nI_add, mT_1, mT_T, mT_s, m_ls hl h0, m_ls hl h1, m_ls hl h2, m_ls hl h5, m_at hl (show 0 < 110 by decide), m_st hl (show 0 < 110 by decide), nS, ez, eT]
/-- rows moved down -/
def mv7_ (T : Nat → Int32) (s i : Nat) : Nat → Int32 := fun k => if 34 + 7 * s ≤ k ∧ k < i then T (k + 7) else T k
theorem mv7_0 {T : Nat → Int32} {s : Nat} : mv7_ T s (34 + 7 * s) = T := by
  funext k
  exact if_neg (by omega)
theorem mv7_s {T : Nat → Int32} {s i : Nat} (hi : 34 + 7 * s ≤ i) : upd (mv7_ T s i) i (mv7_ T s i (i + 7)) = mv7_ T s (i + 1) := by
  funext k
  have e : mv7_ T s i (i + 7) = T (i + 7) := if_neg (by omega)
  rw [e]
  unfold mv7_ upd
  by_cases e : k = i
  · rw [if_pos e, if_pos (by omega), e]
  · rw [if_neg e]
    by_cases e2 : 34 + 7 * s ≤ k ∧ k < i
    · dsimp only
      rw [if_pos e2, if_pos (by omega)]
    · dsimp only
      rw [if_neg e2, if_neg (by omega)]
theorem m_mv (hl : ov_L 11 l h) {s m : Nat} (hs : s ≤ m) (hm : m < 10) : F_X6_tears_L25 1000 (l 0) (nI m) (nI (34 + 7 * s)) (mv_ l M h) = some (mv_ l (mT_ M (mv7_ (M 1) s (34 + 7 * m))) h) := by
  obtain ⟨x2, e, hp⟩ := lp_ (n := 34 + 7 * m) (f := fun z k (y : mm_S) => F_X6_tears_L25 z (l 0) (nI m) (nI k) y) (P := fun k y => 34 + 7 * s ≤ k ∧ y = mv_ l (mT_ M (mv7_ (M 1) s k)) h) (fun z k y hk hp => by
    obtain ⟨h1, rfl⟩ := hp
    refine ⟨_, ?_, by omega, rfl⟩
    rw [F_X6_tears_L25, kk_b34, kk_b7, pk_mul, nI_add, if_neg (nI_ge hk (by omega)), mr_0 hl, Option.bind_some, Option.bind_some, nI_add, m_at hl (by omega), Option.bind_some, m_st hl (by omega), Option.bind_some, mT_1, mT_T, mv7_s h1, nI_s]) (7 * m - 7 * s) (34 + 7 * s) (mv_ l M h) 1000 (by omega) ⟨Nat.le_refl _, by rw [mv7_0, mT_s]⟩ (by omega)
  obtain ⟨-, rfl⟩ := hp
  rw [e, show 1000 - (7 * m - 7 * s) = (999 - (7 * m - 7 * s)) + 1 from by omega, F_X6_tears_L25, kk_b34, kk_b7, pk_mul, nI_add, if_pos (Int32.le_refl _)]
theorem m_tear (hl : ov_L 11 l h) (hT : M 1 0 = nI n) (hn : n ≤ 10) {s : Nat} (hs : s < n) : F_X6_tears (mv_ l M h) (l 0) (nI s) = some (nI (n - 1), mv_ l (mT_ M (tTear_ (M 1) n s)) h) := by
  unfold F_X6_tears
  simp only [mv_is hl, mr_0 hl, Option.bind_some, kk_m2, kk_m3, kk_n1, kj_i0, kj_l0, kj_i1, kj_l1, kj_i2, kj_l2, kj_i3, kj_l3, kj_i4, kj_l4, kj_i5, kj_l5, kj_i6, kj_l6, kj_i7, kj_l7, kj_i8, kj_l8, kj_i9, kj_l9, kj_i10, kj_l10, kj_i11, kj_l11, kj_i12, kj_l12, kj_i13, kj_l13, kj_i14, kj_l14, kj_i15, kj_l15, kj_i16, kj_l16, kk_b6, kk_b7, kk_b8, kk_b9, kk_b10, kk_b11, kk_b12, kk_b13, kk_b14, kk_b15, kk_b16, kk_b20, kk_b40, nI_add, mT_1, mT_T, mT_s, m_at hl (show 0 < 110 by decide), m_st hl (show 0 < 110 by decide), hT, pk_sub (show 1 ≤ n by omega), pk_us, kk_b34, pk_mul, m_mv hl (show s ≤ n - 1 by omega) (show n - 1 < 10 by omega), m_zt hl (show n - 1 < 10 by omega)]
  have e : z7_ (mv7_ (upd (M 1) 0 (nI (n - 1))) s (34 + 7 * (n - 1))) (n - 1) 7 = tTear_ (M 1) n s := by
    funext k
    unfold z7_ mv7_ tTear_
    by_cases e0 : k = 0
    · rw [if_neg (by omega), if_neg (by omega), e0, pk_us, if_pos rfl]
    · rw [if_neg e0]
      by_cases e1 : 34 + 7 * s ≤ k ∧ k < 34 + 7 * (n - 1)
      · rw [if_neg (by omega), if_pos e1, if_pos e1, pk_un (by omega)]
      · rw [if_neg e1, if_neg e1]
        by_cases e2 : 34 + 7 * (n - 1) ≤ k ∧ k < 34 + 7 * (n - 1) + 7
        · rw [if_pos e2, if_pos (by omega)]
        · rw [if_neg e2, if_neg (by omega), pk_un e0]
  rw [e]
end MF

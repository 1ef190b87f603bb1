/-! questions: what is asked, told of the row -/
def qo_ (ex : List String) (q : Int32 ⊕ Nat) : Int32 ⊕ String := match q with
  | .inl v => .inl v
  | .inr i => .inr (ex.getD i "")
def qv_ (q : Int32 ⊕ Nat) : Int32 := match q with
  | .inl v => v
  | .inr _ => nI 0
def qk_ (q : Int32 ⊕ Nat) : Int32 := match q with
  | .inl _ => nI 0
  | .inr i => nI (i + 1)
def m5_ (M : Nat → Nat → Int32) (k : Int32) : Nat → Nat → Int32 := w2_ M 0 5 k
def mo_ (l : Nat → Nat) (M : Nat → Nat → Int32) (h : mm_S) (q : Int32 ⊕ Nat) : Int32 × mm_S := (qv_ q, mv_ l (m5_ M (qk_ q)) h)
def exI_ : List String := ["java/lang/IndexOutOfBoundsException", "java/lang/IllegalArgumentException"]
def exN_ : List String := ["java/lang/IndexOutOfBoundsException", "java/util/NoSuchElementException"]
def exA_ : List String := ["java/lang/IllegalArgumentException", "java/util/NoSuchElementException"]
def q_giant (T : Nat → Int32) (n : Nat) (a x : Int32) : Int32 ⊕ Nat := if In_ (nI 0) (nI 1) a = true then (if x = nI 0 then .inl (gT_ T (cl_ a) 0) else if x = nI 1 then .inl (gT_ T (cl_ a) 1) else if x = nI 2 then .inl (qL_ T a) else if x = nI 3 then .inl (gT_ T (cl_ a) 2) else if x = nI 4 then .inl (qM_ T n a) else if x = nI 5 then .inl (gT_ T (cl_ a) 3) else if x = nI 6 then .inl (gT_ T (cl_ a) 4) else .inr 1) else .inr 0
def q_land (T : Nat → Int32) (n : Nat) (a x : Int32) : Int32 ⊕ Nat := if In_ (nI 0) (nI 7) a = true then (if x = nI 0 then .inl (oT_ T (cl_ a)) else if x = nI 1 then .inl (qA_ T n a) else if x = nI 2 then .inl (qW_ T a) else if x = nI 3 then .inl (qB_ T n a) else .inr 1) else .inr 0
def q_stair (T : Nat → Int32) (n : Nat) (s x : Int32) : Int32 ⊕ Nat := if S_ n s = true then (if x = nI 0 then .inl (sT_ T (cl_ s) 0) else if x = nI 1 then .inl (sT_ T (cl_ s) 1) else if x = nI 2 then .inl (sT_ T (cl_ s) 2) else if x = nI 3 then .inl (sT_ T (cl_ s) 3) else if x = nI 4 then .inl (sT_ T (cl_ s) 4) else if x = nI 5 then .inl (sT_ T (cl_ s) 5) else if x = nI 6 then .inl (sT_ T (cl_ s) 6) else if x = nI 7 then .inl (rent_ (sT_ T (cl_ s))) else .inr 1) else .inr 0
def q_betw (T : Nat → Int32) (n : Nat) (a b : Int32) : Int32 ⊕ Nat := if In_ (nI 0) (nI 7) a = true then (if In_ (nI 0) (nI 7) b = true then (match qJ_ T n a b with
  | some j => .inl (nI j)
  | none => .inr 1) else .inr 0) else .inr 0
def q_brea (T : Nat → Int32) (n : Nat) (a s : Int32) : Int32 ⊕ Nat := if In_ (nI 0) (nI 1) a = true then (if S_ n s = true then .inl (cost_ (sT_ T (cl_ s)) a) else .inr 0) else .inr 0
def q_levy (T : Nat → Int32) (n : Nat) (a s : Int32) : Int32 ⊕ Nat := if In_ (nI 0) (nI 1) a = true then (if S_ n s = true then .inl (if (qrLevy_ T n a s).isSome then nI 0 else tLevyC_ T (cl_ a) (cl_ s)) else .inr 0) else .inr 0
section Q2
variable {l g : Nat → Nat} {w : Nat → Nat → Int32} {h : mm_S} {i k j b n x0 : Nat} {v : Int32} {T : Nat → Int32} {M : Nat → Nat → Int32}
theorem m5_e (hl : ov_L 11 l h) : fx_pV (mv_ l M h) (l 0) 6 5 (.int v) = some (mv_ l (m5_ M v) h) := mp_5 hl
theorem m5_g (hl : ov_L 11 l h) : fx_gI (mv_ l (m5_ M v) h) (l 0) 6 5 = some v := by
  rw [mg_5 hl]
  unfold m5_
  rw [w2_at]
theorem m5_5 {v2 : Int32} : m5_ (m5_ M v) v2 = m5_ M v2 := by
  funext a c
  unfold m5_
  by_cases e : a = 0 ∧ c = 5
  · rw [e.1, e.2, w2_at, w2_at]
  · rw [w2_n2 e, w2_n2 e, w2_n2 e]
theorem m5_1 : m5_ M v 1 = M 1 := w2_ne (by decide)
theorem m5_r {a : Nat} (h : a ≠ 0) : m5_ M v a = M a := w2_ne h
theorem m5_n (hl : ov_L 11 l h) (x : Int32) : F_X6_no (mv_ l M h) (l 0) x = some (nI 0, mv_ l (m5_ M x) h) := m_noE hl x
theorem cq_giant (hl : ov_L 16 l h) (R : R_ g w T n) (hx : fx_gR (tv_ l g w h) x0 5 0 = some (l 0)) (a x : Int32) : F_X5_giantOf (tv_ l g w h) x0 a x = some (qo_ exI_ (q_giant T n a x)) := by
  unfold F_X5_giantOf q_giant
  simp only [hx, T_n hl R, T_t hl R, T_c hl R, T_d hl R, T_v hl R, T_k hl R, T_h hl R, tv_r0 hl, tv_r1 hl, tv_r2 hl, tv_is hl, Option.bind_some, kk_m2, kk_m3, kk_n1, kj_i0, kj_l0, kj_i1, kj_l1, kj_i2, kj_l2, kj_i3, kj_l3, kj_i4, kj_l4, kj_i5, kj_l5, kj_i6, kj_l6, kj_i7, kj_l7, kj_i8, kj_l8, kj_i9, kj_l9, kj_i10, kj_l10, kj_i11, kj_l11, kj_i12, kj_l12, kj_i13, kj_l13, kj_i14, kj_l14, kj_i15, kj_l15, kj_i16, kj_l16, kk_b6, kk_b7, kk_b8, kk_b9, kk_b10, kk_b11, kk_b12, kk_b13, kk_b14, kk_b15, kk_b16, kk_b20, kk_b40, nI_add, c_in, c_isL, c_isG, c_rf, T_isS hl R, bI_n, ne_eq, Decidable.not_not, T_W hl R, T_L hl R, T_M hl R, T_B hl R, T_du hl R, T_ss hl R]
  by_cases ha : In_ (nI 0) (nI 1) a = true
  · obtain ⟨b, hb, rfl⟩ := In_of (by decide) ha
    have hb2 : b < 2 := by omega
    simp only [ha, if_true, hx, T_n hl R, T_t hl R, T_c hl R, T_d hl R, T_v hl R, T_k hl R, T_h hl R, tv_r0 hl, tv_r1 hl, tv_r2 hl, tv_is hl, Option.bind_some, kk_m2, kk_m3, kk_n1, kj_i0, kj_l0, kj_i1, kj_l1, kj_i2, kj_l2, kj_i3, kj_l3, kj_i4, kj_l4, kj_i5, kj_l5, kj_i6, kj_l6, kj_i7, kj_l7, kj_i8, kj_l8, kj_i9, kj_l9, kj_i10, kj_l10, kj_i11, kj_l11, kj_i12, kj_l12, kj_i13, kj_l13, kj_i14, kj_l14, kj_i15, kj_l15, kj_i16, kj_l16, kk_b6, kk_b7, kk_b8, kk_b9, kk_b10, kk_b11, kk_b12, kk_b13, kk_b14, kk_b15, kk_b16, kk_b20, kk_b40, nI_add, c_in, c_isL, c_isG, c_rf, T_isS hl R, bI_n, ne_eq, Decidable.not_not, T_W hl R, T_L hl R, T_M hl R, T_B hl R, T_du hl R, T_ss hl R, tv_aG hl hb2, T_G hl R hb2 (show 0 < 5 by decide), T_G hl R hb2 (show 1 < 5 by decide), T_G hl R hb2 (show 2 < 5 by decide), T_G hl R hb2 (show 3 < 5 by decide), T_G hl R hb2 (show 4 < 5 by decide), cl_nI (show b < 2 ^ 31 by omega)]
    repeat' split
    all_goals rfl
  · simp [ha, qo_, exI_]
theorem mq_giant (hl : ov_L 11 l h) (hT : M 1 0 = nI n) (hn : n ≤ 10) (a x : Int32) : F_X6_giantOf (mv_ l M h) (l 0) a x = some (mo_ l M h (q_giant (M 1) n a x)) := by
  have hT5 : m5_ M (nI 0) 1 0 = nI n := by rw [m5_1, hT]
  unfold F_X6_giantOf q_giant
  simp only [kj_i0, m5_e hl, Option.bind_some, m_isG, kj_l0, ne_eq, bI_n, Decidable.not_not]
  by_cases ha : In_ (nI 0) (nI 1) a = true
  · obtain ⟨b, hb, rfl⟩ := In_of (by decide) ha
    have hb0 : 12 + 5 * b + 0 < 110 := by omega
    have hb1 : 12 + 5 * b + 1 < 110 := by omega
    have hb2 : 12 + 5 * b + 2 < 110 := by omega
    have hb3 : 12 + 5 * b + 3 < 110 := by omega
    have hb4 : 12 + 5 * b + 4 < 110 := by omega
    simp only [ha, if_true, mv_is hl, mr_0 hl, Option.bind_some, kk_m2, kk_m3, kk_n1, kj_i0, kj_l0, kj_i1, kj_l1, kj_i2, kj_l2, kj_i3, kj_l3, kj_i4, kj_l4, kj_i5, kj_l5, kj_i6, kj_l6, kj_i7, kj_l7, kj_i8, kj_l8, kj_i9, kj_l9, kj_i10, kj_l10, kj_i11, kj_l11, kj_i12, kj_l12, kj_i13, kj_l13, kj_i14, kj_l14, kj_i15, kj_l15, kj_i16, kj_l16, kk_b6, kk_b7, kk_b8, kk_b9, kk_b10, kk_b11, kk_b12, kk_b13, kk_b14, kk_b15, kk_b16, kk_b20, kk_b40, nI_add, mT_1, mT_T, mT_s, m_gv hl hb0, m_gv hl hb1, m_gv hl hb2, m_gv hl hb3, m_gv hl hb4, m_L hl, m_M hl hT5 hn, m5_1, m5_n hl, m5_5, cl_nI (show b < 2 ^ 31 by omega)]
    repeat' split
    all_goals rfl
  · simp only [ha, if_false, mv_is hl, mr_0 hl, Option.bind_some, kk_m2, kk_m3, kk_n1, kj_i0, kj_l0, kj_i1, kj_l1, kj_i2, kj_l2, kj_i3, kj_l3, kj_i4, kj_l4, kj_i5, kj_l5, kj_i6, kj_l6, kj_i7, kj_l7, kj_i8, kj_l8, kj_i9, kj_l9, kj_i10, kj_l10, kj_i11, kj_l11, kj_i12, kj_l12, kj_i13, kj_l13, kj_i14, kj_l14, kj_i15, kj_l15, kj_i16, kj_l16, kk_b6, kk_b7, kk_b8, kk_b9, kk_b10, kk_b11, kk_b12, kk_b13, kk_b14, kk_b15, kk_b16, kk_b20, kk_b40, nI_add, mT_1, mT_T, mT_s, m5_n hl, m5_5, mo_, qv_, qk_]
    rfl
theorem cq_land (hl : ov_L 16 l h) (R : R_ g w T n) (I : I_ T n) (hx : fx_gR (tv_ l g w h) x0 5 0 = some (l 0)) (a x : Int32) : F_X5_landingOf (tv_ l g w h) x0 a x = some (qo_ exI_ (q_land T n a x)) := by
  unfold F_X5_landingOf q_land
  simp only [hx, T_n hl R, T_t hl R, T_c hl R, T_d hl R, T_v hl R, T_k hl R, T_h hl R, tv_r0 hl, tv_r1 hl, tv_r2 hl, tv_is hl, Option.bind_some, kk_m2, kk_m3, kk_n1, kj_i0, kj_l0, kj_i1, kj_l1, kj_i2, kj_l2, kj_i3, kj_l3, kj_i4, kj_l4, kj_i5, kj_l5, kj_i6, kj_l6, kj_i7, kj_l7, kj_i8, kj_l8, kj_i9, kj_l9, kj_i10, kj_l10, kj_i11, kj_l11, kj_i12, kj_l12, kj_i13, kj_l13, kj_i14, kj_l14, kj_i15, kj_l15, kj_i16, kj_l16, kk_b6, kk_b7, kk_b8, kk_b9, kk_b10, kk_b11, kk_b12, kk_b13, kk_b14, kk_b15, kk_b16, kk_b20, kk_b40, nI_add, c_in, c_isL, c_isG, c_rf, T_isS hl R, bI_n, ne_eq, Decidable.not_not, T_W hl R, T_L hl R, T_M hl R, T_B hl R, T_du hl R, T_ss hl R, pc_q I]
  by_cases ha : In_ (nI 0) (nI 7) a = true
  · obtain ⟨b, hb, rfl⟩ := In_of (by decide) ha
    simp only [ha, if_true, hx, T_n hl R, T_t hl R, T_c hl R, T_d hl R, T_v hl R, T_k hl R, T_h hl R, tv_r0 hl, tv_r1 hl, tv_r2 hl, tv_is hl, Option.bind_some, kk_m2, kk_m3, kk_n1, kj_i0, kj_l0, kj_i1, kj_l1, kj_i2, kj_l2, kj_i3, kj_l3, kj_i4, kj_l4, kj_i5, kj_l5, kj_i6, kj_l6, kj_i7, kj_l7, kj_i8, kj_l8, kj_i9, kj_l9, kj_i10, kj_l10, kj_i11, kj_l11, kj_i12, kj_l12, kj_i13, kj_l13, kj_i14, kj_l14, kj_i15, kj_l15, kj_i16, kj_l16, kk_b6, kk_b7, kk_b8, kk_b9, kk_b10, kk_b11, kk_b12, kk_b13, kk_b14, kk_b15, kk_b16, kk_b20, kk_b40, nI_add, c_in, c_isL, c_isG, c_rf, T_isS hl R, bI_n, ne_eq, Decidable.not_not, T_W hl R, T_L hl R, T_M hl R, T_B hl R, T_du hl R, T_ss hl R, T_O hl R (show b < 8 by omega), pc_q I, cl_nI (show b < 2 ^ 31 by omega)]
    repeat' split
    all_goals rfl
  · simp [ha, qo_, exI_]
theorem mq_land (hl : ov_L 11 l h) (hT : M 1 0 = nI n) (hn : n ≤ 10) (a x : Int32) : F_X6_landingOf (mv_ l M h) (l 0) a x = some (mo_ l M h (q_land (M 1) n a x)) := by
  have hT5 : m5_ M (nI 0) 1 0 = nI n := by rw [m5_1, hT]
  unfold F_X6_landingOf q_land
  simp only [kj_i0, m5_e hl, Option.bind_some, m_isL, kj_l0, ne_eq, bI_n, Decidable.not_not]
  by_cases ha : In_ (nI 0) (nI 7) a = true
  · obtain ⟨b, hb, rfl⟩ := In_of (by decide) ha
    simp only [ha, if_true, mv_is hl, mr_0 hl, Option.bind_some, kk_m2, kk_m3, kk_n1, kj_i0, kj_l0, kj_i1, kj_l1, kj_i2, kj_l2, kj_i3, kj_l3, kj_i4, kj_l4, kj_i5, kj_l5, kj_i6, kj_l6, kj_i7, kj_l7, kj_i8, kj_l8, kj_i9, kj_l9, kj_i10, kj_l10, kj_i11, kj_l11, kj_i12, kj_l12, kj_i13, kj_l13, kj_i14, kj_l14, kj_i15, kj_l15, kj_i16, kj_l16, kk_b6, kk_b7, kk_b8, kk_b9, kk_b10, kk_b11, kk_b12, kk_b13, kk_b14, kk_b15, kk_b16, kk_b20, kk_b40, nI_add, mT_1, mT_T, mT_s, m_ow hl (show b < 8 by omega), m_A hl hT5 hn, m_W hl, m_B hl hT5 hn, m5_1, m5_n hl, m5_5, cl_nI (show b < 2 ^ 31 by omega)]
    repeat' split
    all_goals rfl
  · simp only [ha, if_false, mv_is hl, mr_0 hl, Option.bind_some, kk_m2, kk_m3, kk_n1, kj_i0, kj_l0, kj_i1, kj_l1, kj_i2, kj_l2, kj_i3, kj_l3, kj_i4, kj_l4, kj_i5, kj_l5, kj_i6, kj_l6, kj_i7, kj_l7, kj_i8, kj_l8, kj_i9, kj_l9, kj_i10, kj_l10, kj_i11, kj_l11, kj_i12, kj_l12, kj_i13, kj_l13, kj_i14, kj_l14, kj_i15, kj_l15, kj_i16, kj_l16, kk_b6, kk_b7, kk_b8, kk_b9, kk_b10, kk_b11, kk_b12, kk_b13, kk_b14, kk_b15, kk_b16, kk_b20, kk_b40, nI_add, mT_1, mT_T, mT_s, m5_n hl, m5_5, mo_, qv_, qk_]
    rfl
theorem cq_stair (hl : ov_L 16 l h) (R : R_ g w T n) (hx : fx_gR (tv_ l g w h) x0 5 0 = some (l 0)) (s x : Int32) : F_X5_stairOf (tv_ l g w h) x0 s x = some (qo_ exI_ (q_stair T n s x)) := by
  unfold F_X5_stairOf q_stair
  simp only [hx, T_n hl R, T_t hl R, T_c hl R, T_d hl R, T_v hl R, T_k hl R, T_h hl R, tv_r0 hl, tv_r1 hl, tv_r2 hl, tv_is hl, Option.bind_some, kk_m2, kk_m3, kk_n1, kj_i0, kj_l0, kj_i1, kj_l1, kj_i2, kj_l2, kj_i3, kj_l3, kj_i4, kj_l4, kj_i5, kj_l5, kj_i6, kj_l6, kj_i7, kj_l7, kj_i8, kj_l8, kj_i9, kj_l9, kj_i10, kj_l10, kj_i11, kj_l11, kj_i12, kj_l12, kj_i13, kj_l13, kj_i14, kj_l14, kj_i15, kj_l15, kj_i16, kj_l16, kk_b6, kk_b7, kk_b8, kk_b9, kk_b10, kk_b11, kk_b12, kk_b13, kk_b14, kk_b15, kk_b16, kk_b20, kk_b40, nI_add, c_in, c_isL, c_isG, c_rf, T_isS hl R, bI_n, ne_eq, Decidable.not_not, T_W hl R, T_L hl R, T_M hl R, T_B hl R, T_du hl R, T_ss hl R]
  by_cases ha : S_ n s = true
  · obtain ⟨j, hj, rfl⟩ := S_of (R_n R) ha
    have hn := R_n R
    simp only [ha, if_true, hx, T_n hl R, T_t hl R, T_c hl R, T_d hl R, T_v hl R, T_k hl R, T_h hl R, tv_r0 hl, tv_r1 hl, tv_r2 hl, tv_is hl, Option.bind_some, kk_m2, kk_m3, kk_n1, kj_i0, kj_l0, kj_i1, kj_l1, kj_i2, kj_l2, kj_i3, kj_l3, kj_i4, kj_l4, kj_i5, kj_l5, kj_i6, kj_l6, kj_i7, kj_l7, kj_i8, kj_l8, kj_i9, kj_l9, kj_i10, kj_l10, kj_i11, kj_l11, kj_i12, kj_l12, kj_i13, kj_l13, kj_i14, kj_l14, kj_i15, kj_l15, kj_i16, kj_l16, kk_b6, kk_b7, kk_b8, kk_b9, kk_b10, kk_b11, kk_b12, kk_b13, kk_b14, kk_b15, kk_b16, kk_b20, kk_b40, nI_add, c_in, c_isL, c_isG, c_rf, T_isS hl R, bI_n, ne_eq, Decidable.not_not, T_W hl R, T_L hl R, T_M hl R, T_B hl R, T_du hl R, T_ss hl R, T_aS hl R hj, T_S hl R hj (show 0 < 7 by decide), T_S hl R hj (show 1 < 7 by decide), T_S hl R hj (show 2 < 7 by decide), T_S hl R hj (show 3 < 7 by decide), T_S hl R hj (show 4 < 7 by decide), T_S hl R hj (show 5 < 7 by decide), T_S hl R hj (show 6 < 7 by decide), T_is hl R hj, T_rent hl R hj, cl_nI (show j < 2 ^ 31 by omega)]
    repeat' split
    all_goals rfl
  · simp [ha, qo_, exI_]
theorem mq_stair (hl : ov_L 11 l h) (hT : M 1 0 = nI n) (hn : n ≤ 10) (s x : Int32) : F_X6_stairOf (mv_ l M h) (l 0) s x = some (mo_ l M h (q_stair (M 1) n s x)) := by
  have hT5 : m5_ M (nI 0) 1 0 = nI n := by rw [m5_1, hT]
  unfold F_X6_stairOf q_stair
  simp only [kj_i0, m5_e hl, Option.bind_some, m_S hl hT5 hn, kj_l0, ne_eq, bI_n, Decidable.not_not, mv_is hl, m_in, kk_b7]
  by_cases ha : S_ n s = true
  · obtain ⟨j, hj, rfl⟩ := S_of hn ha
    simp only [ha, if_true, cl_nI (show j < 2 ^ 31 by omega)]
    by_cases hx : In_ (nI 0) (nI 7) x = true
    · obtain ⟨k, hk, rfl⟩ := In_of (by decide) hx
      rw [if_pos hx, m_sv hl (by omega), m_rent hl (by omega), m5_1]
      have hk8 : k < 8 := by omega
      match k, hk8 with
      | 0, _ | 1, _ | 2, _ | 3, _ | 4, _ | 5, _ | 6, _ | 7, _ => rfl
    · rw [if_neg hx]
      have hne : ∀ k, k < 8 → ¬ x = nI k := fun k hk e => hx (by rw [e]; exact (In_nI (by decide) (by omega)).mpr (by omega))
      simp only [hne 0 (by decide), hne 1 (by decide), hne 2 (by decide), hne 3 (by decide), hne 4 (by decide), hne 5 (by decide), hne 6 (by decide), hne 7 (by decide), if_false, kj_i2, m5_n hl, Option.bind_some, m5_5]
      rfl
  · simp only [ha, if_false, kj_i1, m5_n hl, Option.bind_some, m5_5]
    rfl
theorem cq_betw (hl : ov_L 16 l h) (R : R_ g w T n) (hx : fx_gR (tv_ l g w h) x0 5 0 = some (l 0)) (a b : Int32) : F_X5_between (tv_ l g w h) x0 a b = some (qo_ exN_ (q_betw T n a b)) := by
  have hn := R_n R
  unfold F_X5_between q_betw
  simp only [hx, T_n hl R, T_t hl R, T_c hl R, T_d hl R, T_v hl R, T_k hl R, T_h hl R, tv_r0 hl, tv_r1 hl, tv_r2 hl, tv_is hl, Option.bind_some, kk_m2, kk_m3, kk_n1, kj_i0, kj_l0, kj_i1, kj_l1, kj_i2, kj_l2, kj_i3, kj_l3, kj_i4, kj_l4, kj_i5, kj_l5, kj_i6, kj_l6, kj_i7, kj_l7, kj_i8, kj_l8, kj_i9, kj_l9, kj_i10, kj_l10, kj_i11, kj_l11, kj_i12, kj_l12, kj_i13, kj_l13, kj_i14, kj_l14, kj_i15, kj_l15, kj_i16, kj_l16, kk_b6, kk_b7, kk_b8, kk_b9, kk_b10, kk_b11, kk_b12, kk_b13, kk_b14, kk_b15, kk_b16, kk_b20, kk_b40, nI_add, c_in, c_isL, c_isG, c_rf, T_isS hl R, bI_n, ne_eq, Decidable.not_not, T_W hl R, T_L hl R, T_M hl R, T_B hl R, T_du hl R, T_ss hl R, T_join hl R]
  by_cases ha : In_ (nI 0) (nI 7) a = true
  · by_cases hb : In_ (nI 0) (nI 7) b = true
    · cases e : qJ_ T n a b with
      | some j =>
        have hj : j < n := List.mem_range.mp (List.mem_of_find?_eq_some e)
        have h2 : ¬ nI j = m1_ := fun q => absurd (congrArg Int32.toInt q) (by rw [nI_toInt (by omega)]; show ¬ (j : Int) = -1; omega)
        simp [ha, hb, oI_, h2, qo_]
      | none => simp [ha, hb, oI_, qo_, exN_]
    · simp [ha, hb, qo_, exN_]
  · simp [ha, qo_, exN_]
theorem mq_betw (hl : ov_L 11 l h) (hT : M 1 0 = nI n) (hn : n ≤ 10) (I : I_ (M 1) n) (a b : Int32) : F_X6_between (mv_ l M h) (l 0) a b = some (mo_ l M h (q_betw (M 1) n a b)) := by
  have hT5 : m5_ M (nI 0) 1 0 = nI n := by rw [m5_1, hT]
  have I5 : I_ (m5_ M (nI 0) 1) n := by rw [m5_1]; exact I
  unfold F_X6_between q_betw
  simp only [kj_i0, m5_e hl, Option.bind_some, m_isL, kj_l0, ne_eq, bI_n, Decidable.not_not, mv_is hl, m_jn hl hT5 hn I5, m5_1, kj_i1, kj_i2, m5_n hl, m5_5]
  by_cases ha : In_ (nI 0) (nI 7) a = true
  · by_cases hb : In_ (nI 0) (nI 7) b = true
    · cases e : qJ_ (M 1) n a b with
      | some j =>
        have hj : j < n := List.mem_range.mp (List.mem_of_find?_eq_some e)
        have h2 : nI 0 ≤ nI j := nI_pos' (by omega)
        simp only [ha, hb, not_true_eq_false, if_false, if_true, oI_, h2]
        rfl
      | none =>
        have h2 : ¬ nI 0 ≤ m1_ := by decide
        simp only [ha, hb, not_true_eq_false, if_false, if_true, oI_, h2]
        rfl
    · simp only [ha, hb, not_true_eq_false, if_false, if_true]
      rfl
  · simp only [ha, not_false_eq_true, if_false, if_true]
    rfl
theorem cq_brea (hl : ov_L 16 l h) (R : R_ g w T n) (hx : fx_gR (tv_ l g w h) x0 5 0 = some (l 0)) (a s : Int32) : F_X5_breaths (tv_ l g w h) x0 a s = some (qo_ exI_ (q_brea T n a s)) := by
  have hn := R_n R
  unfold F_X5_breaths q_brea
  simp only [hx, T_n hl R, T_t hl R, T_c hl R, T_d hl R, T_v hl R, T_k hl R, T_h hl R, tv_r0 hl, tv_r1 hl, tv_r2 hl, tv_is hl, Option.bind_some, kk_m2, kk_m3, kk_n1, kj_i0, kj_l0, kj_i1, kj_l1, kj_i2, kj_l2, kj_i3, kj_l3, kj_i4, kj_l4, kj_i5, kj_l5, kj_i6, kj_l6, kj_i7, kj_l7, kj_i8, kj_l8, kj_i9, kj_l9, kj_i10, kj_l10, kj_i11, kj_l11, kj_i12, kj_l12, kj_i13, kj_l13, kj_i14, kj_l14, kj_i15, kj_l15, kj_i16, kj_l16, kk_b6, kk_b7, kk_b8, kk_b9, kk_b10, kk_b11, kk_b12, kk_b13, kk_b14, kk_b15, kk_b16, kk_b20, kk_b40, nI_add, c_in, c_isL, c_isG, c_rf, T_isS hl R, bI_n, ne_eq, Decidable.not_not, T_W hl R, T_L hl R, T_M hl R, T_B hl R, T_du hl R, T_ss hl R]
  by_cases ha : In_ (nI 0) (nI 1) a = true
  · by_cases hs : S_ n s = true
    · obtain ⟨j, hj, rfl⟩ := S_of hn hs
      simp [ha, hs, T_aS hl R hj, T_is hl R hj, T_cost hl R hj, cl_nI (show j < 2 ^ 31 by omega), qo_]
    · simp [ha, hs, qo_, exI_]
  · simp [ha, qo_, exI_]
theorem nb_m1 (hb : b < 2) : ¬ nI b = m1_ := fun q => absurd (congrArg Int32.toInt q) (by rw [nI_toInt (by omega)]; show ¬ (b : Int) = -1; omega)
theorem mq_brea (hl : ov_L 11 l h) (hT : M 1 0 = nI n) (hn : n ≤ 10) (a s : Int32) : F_X6_breaths (mv_ l M h) (l 0) a s = some (mo_ l M h (q_brea (M 1) n a s)) := by
  unfold F_X6_breaths q_brea
  simp only [m_isG, Option.bind_some, kj_l0, bI_n, mv_is hl, m_S hl hT hn, m5_e hl, m5_g hl, kj_i0, kj_i1]
  by_cases ha : In_ (nI 0) (nI 1) a = true
  · obtain ⟨b, hb, rfl⟩ := In_of (by decide) ha
    by_cases hs : S_ n s = true
    · obtain ⟨j, hj, rfl⟩ := S_of hn hs
      simp only [ha, hs, not_true_eq_false, if_false, if_true, show nI 0 ≤ nI 0 from Int32.le_refl _, m_br hl (show j < 10 by omega) (nb_m1 (show b < 2 by omega)), Option.bind_some, m5_1, cl_nI (show j < 2 ^ 31 by omega)]
      rfl
    · simp only [ha, hs, not_true_eq_false, if_false, if_true, show ¬ nI 1 ≤ nI 0 by decide, not_false_eq_true]
      rfl
  · simp only [ha, not_false_eq_true, if_true, if_false, show ¬ nI 1 ≤ nI 0 by decide]
    rfl
theorem cq_levy (hl : ov_L 16 l h) (R : R_ g w T n) (I : I_ T n) (hx : fx_gR (tv_ l g w h) x0 5 0 = some (l 0)) (a s : Int32) : F_X5_levyOf (tv_ l g w h) x0 a s = some (qo_ exI_ (q_levy T n a s)) := by
  unfold F_X5_levyOf q_levy
  simp only [hx, T_n hl R, T_t hl R, T_c hl R, T_d hl R, T_v hl R, T_k hl R, T_h hl R, tv_r0 hl, tv_r1 hl, tv_r2 hl, tv_is hl, Option.bind_some, kk_m2, kk_m3, kk_n1, kj_i0, kj_l0, kj_i1, kj_l1, kj_i2, kj_l2, kj_i3, kj_l3, kj_i4, kj_l4, kj_i5, kj_l5, kj_i6, kj_l6, kj_i7, kj_l7, kj_i8, kj_l8, kj_i9, kj_l9, kj_i10, kj_l10, kj_i11, kj_l11, kj_i12, kj_l12, kj_i13, kj_l13, kj_i14, kj_l14, kj_i15, kj_l15, kj_i16, kj_l16, kk_b6, kk_b7, kk_b8, kk_b9, kk_b10, kk_b11, kk_b12, kk_b13, kk_b14, kk_b15, kk_b16, kk_b20, kk_b40, nI_add, c_in, c_isL, c_isG, c_rf, T_isS hl R, bI_n, ne_eq, Decidable.not_not, T_W hl R, T_L hl R, T_M hl R, T_B hl R, T_du hl R, T_ss hl R, c_levyC hl R I]
  by_cases ha : In_ (nI 0) (nI 1) a = true
  · by_cases hs : S_ n s = true
    · simp [ha, hs, qo_]
    · simp [ha, hs, qo_, exI_]
  · simp [ha, qo_, exI_]
end Q2

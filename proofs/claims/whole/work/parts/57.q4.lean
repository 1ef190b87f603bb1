/-! best levy, takable, orders, dust to come -/
def lv_ (T : Nat → Int32) (n : Nat) (a : Int32) (j : Nat) : Int32 := if (qrLevy_ T n a (nI j)).isSome then nI 0 else tLevyC_ T (cl_ a) j
def bl_ (T : Nat → Int32) (n : Nat) (a : Int32) (m : Nat) : Int32 × Int32 := fo_ (fun j z => if z.2 < lv_ T n a j then (nI j, lv_ T n a j) else z) (m1_, nI 0) m
def q_best (T : Nat → Int32) (n : Nat) (a : Int32) : Int32 ⊕ Nat := if In_ (nI 0) (nI 1) a = true then (if (bl_ T n a n).1 = m1_ then .inr 1 else .inl (bl_ T n a n).1) else .inr 0
def q_can (T : Nat → Int32) (n : Nat) (a : Int32) : Int32 ⊕ Nat := if In_ (nI 0) (nI 7) a = true then .inl (bI_ (qrTake_ T n a = none)) else .inr 0
def tk_ (T : Nat → Int32) (n m : Nat) : Int32 := fo_ (fun i x => if qrTake_ T n (nI i) = none then x ||| (nI 1 <<< (nI i &&& 31)) else x) (nI 0) m
def q_rank (T : Nat → Int32) (n : Nat) (kd pl : Int32) : Int32 ⊕ Nat := if In_ (nI 0) (nI 3) kd = true then (match (List.range n).find? (fun j => decide (qP_ T n j kd = pl)) with
  | some j => .inl (nI j)
  | none => .inr 1) else .inr 0
def dN_ (T : Nat → Int32) (j k : Nat) : Int32 := nI (min 20 (cl_ (sT_ T j 3) + k * cl_ (dpd_ (sT_ T j))))
def q_dust (T : Nat → Int32) (n : Nat) (s d : Int32) : Int32 ⊕ Nat := if S_ n s = true then (if In_ (nI 0) (nI 40) d = true then .inl (dN_ T (cl_ s) (cl_ d)) else .inr 1) else .inr 0
section Q4
variable {l g : Nat → Nat} {w : Nat → Nat → Int32} {h : mm_S} {i k j b n x0 : Nat} {v : Int32} {T : Nat → Int32} {M : Nat → Nat → Int32}
theorem bl_r (T : Nat → Int32) (n : Nat) (a : Int32) : ∀ m, m ≤ 10 → (bl_ T n a m).1 = m1_ ∨ ∃ j, j < m ∧ (bl_ T n a m).1 = nI j
  | 0, _ => .inl rfl
  | m + 1, hm => by
    show (if (bl_ T n a m).2 < lv_ T n a m then _ else bl_ T n a m : Int32 × Int32).1 = m1_ ∨ _
    have e : bl_ T n a (m + 1) = if (bl_ T n a m).2 < lv_ T n a m then (nI m, lv_ T n a m) else bl_ T n a m := rfl
    rw [e]
    split
    · exact .inr ⟨m, by omega, rfl⟩
    · rcases bl_r T n a m (by omega) with q | ⟨j, hj, q⟩
      · exact .inl q
      · exact .inr ⟨j, by omega, q⟩
theorem cq_best (hl : ov_L 16 l h) (R : R_ g w T n) (I : I_ T n) (hx : fx_gR (tv_ l g w h) x0 5 0 = some (l 0)) (a : Int32) : F_X5_bestLevy (tv_ l g w h) x0 a = some (qo_ exN_ (q_best T n a)) := by
  have hn := R_n R
  unfold F_X5_bestLevy q_best
  simp only [hx, T_n hl R, T_t hl R, T_c hl R, T_d hl R, T_v hl R, T_k hl R, T_h hl R, tv_r0 hl, tv_r1 hl, tv_r2 hl, tv_is hl, Option.bind_some, kk_m2, kk_m3, kk_n1, kj_i0, kj_l0, kj_i1, kj_l1, kj_i2, kj_l2, kj_i3, kj_l3, kj_i4, kj_l4, kj_i5, kj_l5, kj_i6, kj_l6, kj_i7, kj_l7, kj_i8, kj_l8, kj_i9, kj_l9, kj_i10, kj_l10, kj_i11, kj_l11, kj_i12, kj_l12, kj_i13, kj_l13, kj_i14, kj_l14, kj_i15, kj_l15, kj_i16, kj_l16, kk_b6, kk_b7, kk_b8, kk_b9, kk_b10, kk_b11, kk_b12, kk_b13, kk_b14, kk_b15, kk_b16, kk_b20, kk_b40, nI_add, c_in, c_isL, c_isG, c_rf, T_isS hl R, bI_n, ne_eq, Decidable.not_not, T_W hl R, T_L hl R, T_M hl R, T_B hl R, T_du hl R, T_ss hl R]
  by_cases ha : In_ (nI 0) (nI 1) a = true
  · have key := lp_o (n := n) (f := fun m i (z : Int32 × Int32) => F_X5_bestLevy_L24 (tv_ l g w h) m x0 a z.1 z.2 (nI i)) (fun j z => if z.2 < lv_ T n a j then (nI j, lv_ T n a j) else z) (fun m i z hi => by
      rw [F_X5_bestLevy_L24, hx, Option.bind_some, T_n hl R, Option.bind_some, if_neg (nI_ge hi (by omega)), Option.bind_some, tv_is hl, Option.bind_some, c_levyC hl R I, Option.bind_some, cl_nI (show i < 2 ^ 31 by omega), nI_s]
      show (if lv_ T n a i ≤ z.2 then _ else _) = _
      by_cases q : lv_ T n a i ≤ z.2
      · rw [if_pos q, if_neg (Int32.not_lt.mpr q)]
      · rw [if_neg q, if_pos (Int32.not_le.mp q)]
        rfl) (m1_, nI 0) 1000 (by omega)
    dsimp only at key
    rw [if_pos ha, if_pos ha, key, show 1000 - n = (999 - n) + 1 from by omega, F_X5_bestLevy_L24, hx, Option.bind_some, T_n hl R, Option.bind_some, if_pos (Int32.le_refl _), Option.bind_some]
    show (if ¬ (bl_ T n a n).1 = m1_ then _ else _) = _
    by_cases q : (bl_ T n a n).1 = m1_
    · rw [if_neg (fun z => z q), if_pos q]
      rfl
    · rw [if_pos q, if_neg q]
      rfl
  · rw [if_neg ha, if_neg ha]
    rfl
theorem mq_best (hl : ov_L 11 l h) (hT : M 1 0 = nI n) (hn : n ≤ 10) (I : I_ (M 1) n) (a : Int32) : ∃ M', F_X6_bestLevy (mv_ l M h) (l 0) a = some (qv_ (q_best (M 1) n a), mv_ l M' h) ∧ NB_ M M' ∧ M' 0 5 = qk_ (q_best (M 1) n a) := by
  unfold F_X6_bestLevy F_X6_bestLevy_B13 q_best
  simp only [m_isG, Option.bind_some, kj_l0, bI_n, m5_e hl, m5_g hl, kj_i0, kj_i1, kk_m2, kj_i2]
  by_cases ha : In_ (nI 0) (nI 1) a = true
  · obtain ⟨x2, e, hp⟩ := lp_ (n := n) (f := fun m i (z : (Int32 × Int32) × mm_S) => F_X6_bestLevy_L32 m (l 0) a z.1.1 z.1.2 (nI i) z.2) (P := fun i z => ∃ M', z = (bl_ (M 1) n a i, mv_ l M' h) ∧ NB_ M M' ∧ M' 1 = M 1 ∧ M' 0 5 = nI 0) (fun m i z hi hp => by
      obtain ⟨M', rfl, nb, e1, e5⟩ := hp
      have hT' : M' 1 0 = nI n := by rw [e1, hT]
      have I' : I_ (M' 1) n := by rw [e1]; exact I
      have ec := m_could (h := h) hl hT' hn I' a (nI i)
      have hT2 : mWo_ M' (qrLevy_ (M' 1) n a (nI i)) 1 0 = nI n := by rw [Wo_1, hT']
      have I2 : I_ (mWo_ M' (qrLevy_ (M' 1) n a (nI i)) 1) n := by rw [Wo_1]; exact I'
      have ec2 := m_could (h := h) hl hT2 hn I2 a (nI i)
      rw [Wo_1, e1, cl_nI (show i < 2 ^ 31 by omega)] at ec2
      rw [e1, cl_nI (show i < 2 ^ 31 by omega)] at ec
      rw [F_X6_bestLevy_L32, mr_0 hl, Option.bind_some, kj_i0, m_at hl (by decide), Option.bind_some, hT', if_neg (nI_ge hi (by omega)), mv_is hl, Option.bind_some, ec, Option.bind_some, nI_s]
      have eb : bl_ (M 1) n a (i + 1) = if (bl_ (M 1) n a i).2 < lv_ (M 1) n a i then (nI i, lv_ (M 1) n a i) else bl_ (M 1) n a i := rfl
      show ∃ b2, (if (bl_ (M 1) n a i).2 < lv_ (M 1) n a i then _ else _) = _ ∧ _
      by_cases q : (bl_ (M 1) n a i).2 < lv_ (M 1) n a i
      · rw [if_pos q, mv_is hl, Option.bind_some, ec2, Option.bind_some]
        refine ⟨((nI i, lv_ (M 1) n a i), mv_ l (mWo_ (mWo_ M' (qrLevy_ (M 1) n a (nI i))) (qrLevy_ (M 1) n a (nI i))) h), rfl, _, by rw [eb, if_pos q], NB_W (NB_W nb), by rw [Wo_1, Wo_1, e1], by rw [Wo_5, Wo_5, e5]⟩
      · rw [if_neg q]
        refine ⟨(bl_ (M 1) n a i, mv_ l (mWo_ M' (qrLevy_ (M 1) n a (nI i))) h), rfl, _, by rw [eb, if_neg q], NB_W nb, by rw [Wo_1, e1], by rw [Wo_5, e5]⟩) n 0 ((m1_, nI 0), mv_ l (m5_ M (nI 0)) h) 1000 (by omega) ⟨m5_ M (nI 0), rfl, NB_m5, m5_1, w5_5⟩ (by omega)
    obtain ⟨M', rfl, nb, e1, e5⟩ := hp
    have hT' : M' 1 0 = nI n := by rw [e1, hT]
    dsimp only at e
    rw [if_neg (fun q => q ha), if_pos ha, if_pos (Int32.le_refl _), e, show 1000 - n = (999 - n) + 1 from by omega, F_X6_bestLevy_L32, mr_0 hl, Option.bind_some, kj_i0, m_at hl (by decide), Option.bind_some, hT', if_pos (Int32.le_refl _), Option.bind_some]
    rcases bl_r (M 1) n a n hn with q | ⟨j, hj, q⟩
    · dsimp only
      rw [if_pos q, q, if_neg (by decide), mv_is hl, Option.bind_some, m5_n hl, Option.bind_some]
      refine ⟨_, rfl, ⟨fun k h5 h7 h8 => ?_, fun a h0 h2 h3 h6 => ?_⟩, w5_5⟩
      · unfold m5_
        rw [w2_n2 (by omega)]
        exact nb.1 k h5 h7 h8
      · rw [m5_r h0]
        exact nb.2 a h0 h2 h3 h6
    · have hne : ¬ nI j = m1_ := fun q => absurd (congrArg Int32.toInt q) (by rw [nI_toInt (by omega)]; show ¬ (j : Int) = -1; omega)
      dsimp only
      rw [q, if_neg hne, if_pos (show nI 0 ≤ nI j from nI_pos' (by omega))]
      exact ⟨_, rfl, nb, e5⟩
  · rw [if_pos ha, if_neg ha, if_neg (by decide)]
    exact ⟨_, rfl, NB_m5, w5_5⟩
theorem cq_can (hl : ov_L 16 l h) (R : R_ g w T n) (I : I_ T n) (hx : fx_gR (tv_ l g w h) x0 5 0 = some (l 0)) (a : Int32) : F_X5_canTake (tv_ l g w h) x0 a = some (qo_ exI_ (q_can T n a)) := by
  unfold F_X5_canTake q_can
  simp only [hx, T_n hl R, T_t hl R, T_c hl R, T_d hl R, T_v hl R, T_k hl R, T_h hl R, tv_r0 hl, tv_r1 hl, tv_r2 hl, tv_is hl, Option.bind_some, kk_m2, kk_m3, kk_n1, kj_i0, kj_l0, kj_i1, kj_l1, kj_i2, kj_l2, kj_i3, kj_l3, kj_i4, kj_l4, kj_i5, kj_l5, kj_i6, kj_l6, kj_i7, kj_l7, kj_i8, kj_l8, kj_i9, kj_l9, kj_i10, kj_l10, kj_i11, kj_l11, kj_i12, kj_l12, kj_i13, kj_l13, kj_i14, kj_l14, kj_i15, kj_l15, kj_i16, kj_l16, kk_b6, kk_b7, kk_b8, kk_b9, kk_b10, kk_b11, kk_b12, kk_b13, kk_b14, kk_b15, kk_b16, kk_b20, kk_b40, nI_add, c_in, c_isL, c_isG, c_rf, T_isS hl R, bI_n, ne_eq, Decidable.not_not, T_W hl R, T_L hl R, T_M hl R, T_B hl R, T_du hl R, T_ss hl R, T_nTake hl R I]
  by_cases ha : In_ (nI 0) (nI 7) a = true
  · rw [if_pos ha, if_pos ha]
    cases e : qrTake_ T n a with
    | none =>
      rw [if_neg (fun q => q rf_kl)]
      rfl
    | some q =>
      rw [if_pos (show ¬ lg_cmp (rL_ (some q)) (kl 0) = nI 0 from rf_ne q.2 (qn_take e))]
      rfl
  · rw [if_neg ha, if_neg ha]
    rfl
theorem mq_can (hl : ov_L 11 l h) (hT : M 1 0 = nI n) (hn : n ≤ 10) (I : I_ (M 1) n) (a : Int32) : ∃ M', F_X6_canTake (mv_ l M h) (l 0) a = some (qv_ (q_can (M 1) n a), mv_ l M' h) ∧ NB_ M M' ∧ M' 0 5 = qk_ (q_can (M 1) n a) := by
  have hT5 : m5_ M (nI 0) 1 0 = nI n := by rw [m5_1, hT]
  have I5 : I_ (m5_ M (nI 0) 1) n := by rw [m5_1]; exact I
  unfold F_X6_canTake q_can
  simp only [m_isL, Option.bind_some, kj_l0, bI_n, m5_e hl, m5_g hl, kj_i0, kj_i1, mv_is hl, m_nTake hl hT5 hn I5, m5_1, ne_eq]
  by_cases ha : In_ (nI 0) (nI 7) a = true
  · rw [if_neg (fun q => q ha), if_pos ha, if_neg (by simp)]
    cases e : qrTake_ (M 1) n a with
    | none =>
      refine ⟨m5_ M (nI 0), ?_, NB_m5, w5_5⟩
      show (if ¬ (nI 0 : Int32) = nI 0 then _ else _) = _
      rw [if_neg (fun q => q rfl)]
      rfl
    | some q =>
      refine ⟨mWo_ (m5_ M (nI 0)) (some q), ?_, NB_W NB_m5, by rw [Wo_5, w5_5]; rfl⟩
      show (if ¬ (nI 1 : Int32) = nI 0 then _ else _) = _
      rw [if_pos (by decide)]
      rfl
  · rw [if_pos ha, if_neg ha, if_pos (by decide)]
    exact ⟨_, rfl, NB_m5, w5_5⟩
theorem cq_tk (hl : ov_L 16 l h) (R : R_ g w T n) (I : I_ T n) (hx : fx_gR (tv_ l g w h) x0 5 0 = some (l 0)) : F_X5_takable (tv_ l g w h) x0 = some (tk_ T n 8) := by
  unfold F_X5_takable
  have key := lp_o (n := 8) (f := fun m i x => F_X5_takable_L4 (tv_ l g w h) m x0 x (nI i)) (fun i x => if qrTake_ T n (nI i) = none then x ||| (nI 1 <<< (nI i &&& 31)) else x) (fun m i x hi => by
    rw [F_X5_takable_L4, kk_b8, if_neg (nI_ge hi (by decide)), hx, Option.bind_some, tv_is hl, Option.bind_some, T_nTake hl R I, Option.bind_some, nI_s, kj_i1]
    cases e : qrTake_ T n (nI i) with
    | none => rw [if_neg (fun q => q rf_kl), if_pos rfl]
    | some q => rw [if_pos (show lg_cmp (rL_ (some q)) (kl 0) ≠ 0 from rf_ne q.2 (qn_take e)), if_neg (by intro z; cases z)]) (nI 0) 1000 (by omega)
  rw [show ki 0 = nI 0 from rfl, key, show 1000 - 8 = 991 + 1 from rfl, F_X5_takable_L4, kk_b8, if_pos (Int32.le_refl _), Option.bind_some]
  rfl
theorem mq_tk (hl : ov_L 11 l h) (hT : M 1 0 = nI n) (hn : n ≤ 10) (I : I_ (M 1) n) : ∃ M', F_X6_takable (mv_ l M h) (l 0) = some (tk_ (M 1) n 8, mv_ l M' h) ∧ NB_ M M' ∧ M' 0 5 = nI 0 := by
  unfold F_X6_takable
  obtain ⟨x2, e, hp⟩ := lp_ (n := 8) (f := fun m i (z : Int32 × mm_S) => F_X6_takable_L9 m (l 0) z.1 (nI i) z.2) (P := fun i z => ∃ M', z = (tk_ (M 1) n i, mv_ l M' h) ∧ NB_ M M' ∧ M' 1 = M 1 ∧ M' 0 5 = nI 0) (fun m i z hi hp => by
    obtain ⟨M', rfl, nb, e1, e5⟩ := hp
    have hT' : M' 1 0 = nI n := by rw [e1, hT]
    have I' : I_ (M' 1) n := by rw [e1]; exact I
    have ec := m_nTake (h := h) hl hT' hn I' (nI i)
    rw [e1] at ec
    rw [F_X6_takable_L9, kk_b8, if_neg (nI_ge hi (by decide)), mv_is hl, Option.bind_some, ec, Option.bind_some, nI_s, kj_i1, kj_i0]
    have et : tk_ (M 1) n (i + 1) = if qrTake_ (M 1) n (nI i) = none then tk_ (M 1) n i ||| (nI 1 <<< (nI i &&& 31)) else tk_ (M 1) n i := rfl
    cases e : qrTake_ (M 1) n (nI i) with
    | none =>
      rw [e, if_pos rfl] at et
      refine ⟨(tk_ (M 1) n (i + 1), mv_ l M' h), ?_, M', rfl, nb, e1, e5⟩
      show (if (nI 0 : Int32) = 0 then _ else _) = _
      rw [if_pos (show (nI 0 : Int32) = 0 from rfl), et]
      rfl
    | some q =>
      rw [e, if_neg (by intro z; cases z)] at et
      refine ⟨(tk_ (M 1) n (i + 1), mv_ l (mWo_ M' (some q)) h), ?_, _, rfl, NB_W nb, by rw [Wo_1, e1], by rw [Wo_5, e5]⟩
      show (if (nI 1 : Int32) = 0 then _ else _) = _
      rw [if_neg (by decide), et, show tk_ (M 1) n i ||| nI 0 = tk_ (M 1) n i from Int32.or_zero]
      rfl) 8 0 (nI 0, mv_ l (m5_ M (nI 0)) h) 1000 (by omega) ⟨m5_ M (nI 0), rfl, NB_m5, m5_1, w5_5⟩ (by omega)
  obtain ⟨M', rfl, nb, e1, e5⟩ := hp
  refine ⟨M', ?_, nb, e5⟩
  dsimp only at e
  rw [show ki 0 = nI 0 from rfl, m5_e hl, Option.bind_some, e, show 1000 - 8 = 991 + 1 from rfl, F_X6_takable_L9, kk_b8, if_pos (Int32.le_refl _), Option.bind_some]
theorem cq_rank (hl : ov_L 16 l h) (R : R_ g w T n) (hx : fx_gR (tv_ l g w h) x0 5 0 = some (l 0)) (kd pl : Int32) (hu : ∀ i j, i < n → j < n → qP_ T n i kd = qP_ T n j kd → i = j) : F_X5_ranked (tv_ l g w h) x0 kd pl = some (qo_ exA_ (q_rank T n kd pl)) := by
  have hn := R_n R
  unfold F_X5_ranked q_rank
  simp only [hx, T_n hl R, T_t hl R, T_c hl R, T_d hl R, T_v hl R, T_k hl R, T_h hl R, tv_r0 hl, tv_r1 hl, tv_r2 hl, tv_is hl, Option.bind_some, kk_m2, kk_m3, kk_n1, kj_i0, kj_l0, kj_i1, kj_l1, kj_i2, kj_l2, kj_i3, kj_l3, kj_i4, kj_l4, kj_i5, kj_l5, kj_i6, kj_l6, kj_i7, kj_l7, kj_i8, kj_l8, kj_i9, kj_l9, kj_i10, kj_l10, kj_i11, kj_l11, kj_i12, kj_l12, kj_i13, kj_l13, kj_i14, kj_l14, kj_i15, kj_l15, kj_i16, kj_l16, kk_b6, kk_b7, kk_b8, kk_b9, kk_b10, kk_b11, kk_b12, kk_b13, kk_b14, kk_b15, kk_b16, kk_b20, kk_b40, nI_add, c_in, c_isL, c_isG, c_rf, T_isS hl R, bI_n, ne_eq, Decidable.not_not, T_W hl R, T_L hl R, T_M hl R, T_B hl R, T_du hl R, T_ss hl R]
  by_cases ha : In_ (nI 0) (nI 3) kd = true
  · rw [if_pos ha, if_pos ha]
    obtain ⟨z, e, hp⟩ := lp_ (n := n) (f := fun m i z => F_X5_ranked_L25 (tv_ l g w h) m x0 kd pl z (nI i)) (P := fun i z => (z = m1_ ∧ ∀ j, j < i → ¬ qP_ T n j kd = pl) ∨ ∃ j, j < i ∧ z = nI j ∧ qP_ T n j kd = pl) (fun m i z hi hp => by
      rw [F_X5_ranked_L25, hx, Option.bind_some, T_n hl R, Option.bind_some, if_neg (nI_ge hi (by omega)), Option.bind_some, tv_is hl, Option.bind_some, T_P hl R hi, Option.bind_some, nI_s]
      by_cases q : qP_ T n i kd = pl
      · rw [if_neg (fun z => z q)]
        exact ⟨nI i, rfl, .inr ⟨i, by omega, rfl, q⟩⟩
      · rw [if_pos q]
        refine ⟨z, rfl, ?_⟩
        rcases hp with ⟨e1, h1⟩ | ⟨j, h1, h2, h3⟩
        · refine .inl ⟨e1, fun j hj => ?_⟩
          by_cases ej : j = i
          · rw [ej]; exact q
          · exact h1 j (by omega)
        · exact .inr ⟨j, by omega, h2, h3⟩) n 0 m1_ 1000 (by omega) (.inl ⟨rfl, fun j hj => by omega⟩) (by omega)
    rw [e, show 1000 - n = (999 - n) + 1 from by omega, F_X5_ranked_L25, hx, Option.bind_some, T_n hl R, Option.bind_some, if_pos (Int32.le_refl _), Option.bind_some]
    rcases hp with ⟨e1, h1⟩ | ⟨j, h1, h2, h3⟩
    · have ef : (List.range n).find? (fun j => decide (qP_ T n j kd = pl)) = none := List.find?_eq_none.mpr (fun j hj => by simpa using h1 j (List.mem_range.mp hj))
      rw [ef, e1, if_neg (fun z => z rfl)]
      rfl
    · cases ef : (List.range n).find? (fun j => decide (qP_ T n j kd = pl)) with
      | none =>
        have := List.find?_eq_none.mp ef j (List.mem_range.mpr h1)
        exact absurd (by simpa using h3) this
      | some j2 =>
        have e4 := List.find?_some ef
        have e5 := List.mem_range.mp (List.mem_of_find?_eq_some ef)
        have : j2 = j := hu _ _ e5 h1 ((of_decide_eq_true e4).trans h3.symm)
        subst this
        have hne : ¬ nI j2 = m1_ := fun q => absurd (congrArg Int32.toInt q) (by rw [nI_toInt (by omega)]; show ¬ (j2 : Int) = -1; omega)
        rw [h2, if_pos hne]
        rfl
  · rw [if_neg ha, if_neg ha]
    rfl
theorem mq_rank (hl : ov_L 11 l h) (hT : M 1 0 = nI n) (hn : n ≤ 10) (kd pl : Int32) : F_X6_ranked (mv_ l M h) (l 0) kd pl = some (mo_ l M h (q_rank (M 1) n kd pl)) := by
  have hT5 : m5_ M (nI 0) 1 0 = nI n := by rw [m5_1, hT]
  unfold F_X6_ranked q_rank
  simp only [kj_i0, m5_e hl, Option.bind_some, m_in, kj_l0, ne_eq, bI_n, Decidable.not_not, kj_i3]
  by_cases ha : In_ (nI 0) (nI 3) kd = true
  · rw [if_pos ha, if_pos ha]
    have key := lp_d (n := n) (f := fun m i => F_X6_ranked_L22 m (l 0) kd pl (nI i) (mv_ l (m5_ M (nI 0)) h)) (fun j => decide (qP_ (M 1) n j kd = pl)) (fun i => .inl (nI i, mv_ l (m5_ M (nI 0)) h)) (fun m i hi => by
      rw [F_X6_ranked_L22, mr_0 hl, Option.bind_some, kj_i0, m_at hl (by decide), Option.bind_some, hT5, if_neg (nI_ge hi (by omega)), m_P hl hT5 hn hi, Option.bind_some, nI_s, m5_1]
      by_cases q : qP_ (M 1) n i kd = pl
      · rw [if_neg (fun z => z q), if_pos (decide_eq_true q)]
      · rw [if_pos q, if_neg (fun z => q (of_decide_eq_true z))]) 1000 (by omega)
    rw [key]
    cases (List.range n).find? (fun j => decide (qP_ (M 1) n j kd = pl)) with
    | some j => rfl
    | none =>
      dsimp only
      rw [show 1000 - n = (999 - n) + 1 from by omega, F_X6_ranked_L22, mr_0 hl, Option.bind_some, kj_i0, m_at hl (by decide), Option.bind_some, hT5, if_pos (Int32.le_refl _), Option.bind_some]
      dsimp only
      rw [mv_is hl, Option.bind_some, kj_i2, m5_n hl, Option.bind_some, m5_5]
      rfl
  · rw [if_neg ha, if_neg ha, mv_is hl, Option.bind_some, kj_i1, m5_n hl, Option.bind_some, m5_5]
    rfl
/-- places in an order differ -/
theorem qP_lt {T : Nat → Int32} {n i j : Nat} {kd : Int32} (hn : n ≤ 10) (hi : i < n) (hb : key_ (sT_ T j) kd < key_ (sT_ T i) kd ∨ key_ (sT_ T i) kd = key_ (sT_ T j) kd ∧ i < j) : ∃ a b, qP_ T n i kd = nI a ∧ qP_ T n j kd = nI b ∧ a < b ∧ b ≤ 10 := by
  have key : ∀ m, m ≤ n → ∃ a b, fo_ (fun o x => if key_ (sT_ T i) kd < key_ (sT_ T o) kd ∨ key_ (sT_ T o) kd = key_ (sT_ T i) kd ∧ o < i then x + nI 1 else x) (nI 0) m = nI a ∧ fo_ (fun o x => if key_ (sT_ T j) kd < key_ (sT_ T o) kd ∨ key_ (sT_ T o) kd = key_ (sT_ T j) kd ∧ o < j then x + nI 1 else x) (nI 0) m = nI b ∧ a + (if i < m then 1 else 0) ≤ b ∧ b ≤ m := by
    intro m
    induction m with
    | zero => intro _; exact ⟨0, 0, rfl, rfl, by rw [if_neg (by omega)]; decide, by decide⟩
    | succ m ih =>
      intro hm
      obtain ⟨a, b, e1, e2, h1, h2⟩ := ih (by omega)
      have f1 : fo_ (fun o x => if key_ (sT_ T i) kd < key_ (sT_ T o) kd ∨ key_ (sT_ T o) kd = key_ (sT_ T i) kd ∧ o < i then x + nI 1 else x) (nI 0) (m + 1) = if key_ (sT_ T i) kd < key_ (sT_ T m) kd ∨ key_ (sT_ T m) kd = key_ (sT_ T i) kd ∧ m < i then nI (a + 1) else nI a := by
        rw [← nI_add, ← e1]
        rfl
      have f2 : fo_ (fun o x => if key_ (sT_ T j) kd < key_ (sT_ T o) kd ∨ key_ (sT_ T o) kd = key_ (sT_ T j) kd ∧ o < j then x + nI 1 else x) (nI 0) (m + 1) = if key_ (sT_ T j) kd < key_ (sT_ T m) kd ∨ key_ (sT_ T m) kd = key_ (sT_ T j) kd ∧ m < j then nI (b + 1) else nI b := by
        rw [← nI_add, ← e2]
        rfl
      rw [f1, f2]
      by_cases c1 : key_ (sT_ T i) kd < key_ (sT_ T m) kd ∨ key_ (sT_ T m) kd = key_ (sT_ T i) kd ∧ m < i
      · have c2 : key_ (sT_ T j) kd < key_ (sT_ T m) kd ∨ key_ (sT_ T m) kd = key_ (sT_ T j) kd ∧ m < j := by
          rcases c1 with c1 | ⟨c1, c1'⟩ <;> rcases hb with hb | ⟨hb, hb'⟩
          · exact .inl (Int32.lt_trans hb c1)
          · exact .inl (hb ▸ c1)
          · exact .inl (c1 ▸ hb)
          · exact .inr ⟨c1.trans hb, by omega⟩
        have him : ¬ i = m := by
          rintro rfl
          rcases c1 with c1 | ⟨-, c1⟩
          · exact Int32.lt_irrefl c1
          · omega
        rw [if_pos c1, if_pos c2]
        refine ⟨a + 1, b + 1, rfl, rfl, ?_, by omega⟩
        by_cases q : i < m
        · rw [if_pos q] at h1
          rw [if_pos (by omega)]
          omega
        · rw [if_neg q] at h1
          rw [if_neg (by omega)]
          omega
      · rw [if_neg c1]
        by_cases him : i = m
        · have c2 : key_ (sT_ T j) kd < key_ (sT_ T m) kd ∨ key_ (sT_ T m) kd = key_ (sT_ T j) kd ∧ m < j := him ▸ hb
          rw [if_pos c2]
          refine ⟨a, b + 1, rfl, rfl, ?_, by omega⟩
          rw [if_neg (by omega)] at h1
          rw [if_pos (by omega)]
          omega
        · by_cases c2 : key_ (sT_ T j) kd < key_ (sT_ T m) kd ∨ key_ (sT_ T m) kd = key_ (sT_ T j) kd ∧ m < j
          · rw [if_pos c2]
            refine ⟨a, b + 1, rfl, rfl, ?_, by omega⟩
            by_cases q : i < m
            · rw [if_pos q] at h1
              rw [if_pos (by omega)]
              omega
            · rw [if_neg q] at h1
              rw [if_neg (by omega)]
              omega
          · rw [if_neg c2]
            refine ⟨a, b, rfl, rfl, ?_, by omega⟩
            by_cases q : i < m
            · rw [if_pos q] at h1
              rw [if_pos (by omega)]
              omega
            · rw [if_neg q] at h1
              rw [if_neg (by omega)]
              omega
  obtain ⟨a, b, e1, e2, h1, h2⟩ := key n (Nat.le_refl n)
  rw [if_pos hi] at h1
  exact ⟨a, b, e1, e2, by omega, by omega⟩
theorem qP_u {T : Nat → Int32} {n : Nat} {kd : Int32} (hn : n ≤ 10) : ∀ i j, i < n → j < n → qP_ T n i kd = qP_ T n j kd → i = j := by
  intro i j hi hj e
  rcases Nat.lt_trichotomy i j with q | q | q
  · by_cases hk : key_ (sT_ T i) kd < key_ (sT_ T j) kd
    · obtain ⟨a, b, e1, e2, h1, h2⟩ := qP_lt hn hj (.inl hk)
      rw [e1, e2, nI_eq (by omega) (by omega)] at e
      omega
    · have hle := Int32.not_lt.mp hk
      obtain ⟨a, b, e1, e2, h1, h2⟩ := qP_lt (T := T) (kd := kd) (j := j) hn hi (by
        by_cases hk2 : key_ (sT_ T j) kd < key_ (sT_ T i) kd
        · exact .inl hk2
        · exact .inr ⟨Int32.le_antisymm (Int32.not_lt.mp hk2) hle, q⟩)
      rw [e1, e2, nI_eq (by omega) (by omega)] at e
      omega
  · exact q
  · by_cases hk : key_ (sT_ T j) kd < key_ (sT_ T i) kd
    · obtain ⟨a, b, e1, e2, h1, h2⟩ := qP_lt hn hi (.inl hk)
      rw [e1, e2, nI_eq (by omega) (by omega)] at e
      omega
    · have hle := Int32.not_lt.mp hk
      obtain ⟨a, b, e1, e2, h1, h2⟩ := qP_lt (T := T) (kd := kd) (j := i) hn hj (by
        by_cases hk2 : key_ (sT_ T i) kd < key_ (sT_ T j) kd
        · exact .inl hk2
        · exact .inr ⟨Int32.le_antisymm (Int32.not_lt.mp hk2) hle, q⟩)
      rw [e1, e2, nI_eq (by omega) (by omega)] at e
      omega
end Q4

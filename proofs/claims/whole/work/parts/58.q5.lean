/-! dust to come, rents to come -/
section Q5
variable {l g : Nat → Nat} {w : Nat → Nat → Int32} {h : mm_S} {i k j b n x0 : Nat} {v : Int32} {T : Nat → Int32} {M : Nat → Nat → Int32}
theorem dust_n (I : I_ T n) (hj : j < n) : ∃ a c, a ≤ 20 ∧ c ≤ 9 ∧ sT_ T j 3 = nI a ∧ dpd_ (sT_ T j) = nI c ∧ ∀ k, dN_ T j k = nI (min 20 (a + k * c)) := by
  obtain ⟨a, ha, ea⟩ := (I.2.2.2.2.1 j hj).2.2.1
  obtain ⟨c, hc, -, ec⟩ := dpd_n (I.2.2.2.2.1 j hj)
  refine ⟨a, c, ha, hc, ea, ec, fun k => ?_⟩
  unfold dN_
  rw [ea, ec, cl_nI (by omega), cl_nI (by omega)]
theorem min_n {x : Nat} (hx : x < 2 ^ 31) : (if nI x < nI 20 then nI x else nI 20) = nI (min 20 x) := by
  by_cases q : x < 20
  · rw [if_pos (nI_lt q (by decide)), Nat.min_eq_right (by omega)]
  · rw [if_neg (nI_nlt (by omega) hx), Nat.min_eq_left (by omega)]
theorem min_m {x : Nat} (hx : x < 2 ^ 31) : (if nI x ≤ nI 20 then some (nI x) else some (nI 20)) = some (nI (min 20 x)) := by
  by_cases q : x ≤ 20
  · rw [if_pos (nI_le q (by decide)), Nat.min_eq_right q]
  · rw [if_neg (nI_ge (by omega) hx), Nat.min_eq_left (by omega)]
theorem cq_dustA (hl : ov_L 16 l h) (R : R_ g w T n) (I : I_ T n) (hx : fx_gR (tv_ l g w h) x0 5 0 = some (l 0)) (s d : Int32) : F_X5_dustAgain (tv_ l g w h) x0 s d = some (qo_ exI_ (q_dust T n s d)) := by
  have hn := R_n R
  unfold F_X5_dustAgain q_dust
  simp only [hx, T_n hl R, T_t hl R, T_c hl R, T_d hl R, T_v hl R, T_k hl R, T_h hl R, tv_r0 hl, tv_r1 hl, tv_r2 hl, tv_is hl, Option.bind_some, kk_m2, kk_m3, kk_n1, kj_i0, kj_l0, kj_i1, kj_l1, kj_i2, kj_l2, kj_i3, kj_l3, kj_i4, kj_l4, kj_i5, kj_l5, kj_i6, kj_l6, kj_i7, kj_l7, kj_i8, kj_l8, kj_i9, kj_l9, kj_i10, kj_l10, kj_i11, kj_l11, kj_i12, kj_l12, kj_i13, kj_l13, kj_i14, kj_l14, kj_i15, kj_l15, kj_i16, kj_l16, kk_b6, kk_b7, kk_b8, kk_b9, kk_b10, kk_b11, kk_b12, kk_b13, kk_b14, kk_b15, kk_b16, kk_b20, kk_b40, nI_add, c_in, c_isL, c_isG, c_rf, T_isS hl R, bI_n, ne_eq, Decidable.not_not, T_W hl R, T_L hl R, T_M hl R, T_B hl R, T_du hl R, T_ss hl R]
  by_cases hs : S_ n s = true
  · obtain ⟨j, hj, rfl⟩ := S_of hn hs
    rw [if_pos hs, if_pos hs]
    by_cases hd : In_ (nI 0) (nI 40) d = true
    · obtain ⟨k, hk, rfl⟩ := In_of (by decide) hd
      obtain ⟨a, c, ha, hc, ea, ec, ed⟩ := dust_n I hj
      have hkc : k * c ≤ 40 * 9 := Nat.mul_le_mul hk hc
      rw [if_pos hd, if_pos hd]
      simp only [T_aS hl R hj, Option.bind_some, T_S hl R hj (show 3 < 7 by decide), T_is hl R hj, T_dpd hl R hj, ea, ec, pk_mul, nI_add]
      rw [min_n (by omega), cl_nI (show j < 2 ^ 31 by omega), cl_nI (show k < 2 ^ 31 by omega), ed]
      rfl
    · rw [if_neg hd, if_neg hd]
      rfl
  · rw [if_neg hs, if_neg hs]
    rfl
theorem cq_dustI (hl : ov_L 16 l h) (R : R_ g w T n) (I : I_ T n) (hx : fx_gR (tv_ l g w h) x0 5 0 = some (l 0)) (s d : Int32) : F_X5_dustIn (tv_ l g w h) x0 s d = some (qo_ exI_ (q_dust T n s d)) := by
  have hn := R_n R
  unfold F_X5_dustIn q_dust
  simp only [hx, T_n hl R, T_t hl R, T_c hl R, T_d hl R, T_v hl R, T_k hl R, T_h hl R, tv_r0 hl, tv_r1 hl, tv_r2 hl, tv_is hl, Option.bind_some, kk_m2, kk_m3, kk_n1, kj_i0, kj_l0, kj_i1, kj_l1, kj_i2, kj_l2, kj_i3, kj_l3, kj_i4, kj_l4, kj_i5, kj_l5, kj_i6, kj_l6, kj_i7, kj_l7, kj_i8, kj_l8, kj_i9, kj_l9, kj_i10, kj_l10, kj_i11, kj_l11, kj_i12, kj_l12, kj_i13, kj_l13, kj_i14, kj_l14, kj_i15, kj_l15, kj_i16, kj_l16, kk_b6, kk_b7, kk_b8, kk_b9, kk_b10, kk_b11, kk_b12, kk_b13, kk_b14, kk_b15, kk_b16, kk_b20, kk_b40, nI_add, c_in, c_isL, c_isG, c_rf, T_isS hl R, bI_n, ne_eq, Decidable.not_not, T_W hl R, T_L hl R, T_M hl R, T_B hl R, T_du hl R, T_ss hl R]
  by_cases hs : S_ n s = true
  · obtain ⟨j, hj, rfl⟩ := S_of hn hs
    rw [if_pos hs, if_pos hs]
    by_cases hd : In_ (nI 0) (nI 40) d = true
    · obtain ⟨k, hk, rfl⟩ := In_of (by decide) hd
      obtain ⟨a, c, ha, hc, ea, ec, ed⟩ := dust_n I hj
      rw [if_pos hd, if_pos hd]
      obtain ⟨z, e, hp⟩ := lp_ (n := k) (f := fun m i z => F_X5_dustIn_L61 (tv_ l g w h) m (nI k) (l (g j)) z (nI i)) (P := fun i z => z = nI (min 20 (a + i * c))) (fun m i z hi hp => by
        subst hp
        refine ⟨_, ?_, rfl⟩
        rw [F_X5_dustIn_L61, if_neg (nI_ge hi (by omega)), T_is hl R hj, Option.bind_some, T_dpd hl R hj, Option.bind_some, ec, kk_b20, nI_add, min_n (by omega), nI_s]
        rw [show min 20 (min 20 (a + i * c) + c) = min 20 (a + (i + 1) * c) from by rw [Nat.add_mul]; omega]) k 0 (nI a) 1000 (by omega) (by rw [Nat.zero_mul, Nat.add_zero, Nat.min_eq_right ha]) (by omega)
      subst hp
      simp only [T_aS hl R hj, Option.bind_some, T_S hl R hj (show 3 < 7 by decide), ea]
      rw [e, show 1000 - k = (999 - k) + 1 from by omega, F_X5_dustIn_L61, if_pos (Int32.le_refl _), Option.bind_some, cl_nI (show j < 2 ^ 31 by omega), cl_nI (show k < 2 ^ 31 by omega), ed]
      rfl
    · rw [if_neg hd, if_neg hd]
      rfl
  · rw [if_neg hs, if_neg hs]
    rfl
theorem mq_dust (hl : ov_L 11 l h) (hT : M 1 0 = nI n) (hn : n ≤ 10) (I : I_ (M 1) n) (s d : Int32) : F_X6_dustBy (mv_ l M h) (l 0) s d = some (mo_ l M h (q_dust (M 1) n s d)) := by
  unfold F_X6_dustBy F_X6_areDays F_X6_dustBy_B25 q_dust
  simp only [mv_is hl, Option.bind_some, m_S hl hT hn, m_in, bI_nar, kj_l0, kj_i0, kk_b40, kj_i1, kj_i2, ne_eq, bI_n, Decidable.not_not, m5_e hl, m5_g hl]
  by_cases hs : S_ n s = true
  · obtain ⟨j, hj, rfl⟩ := S_of hn hs
    rw [if_pos hs, if_pos hs]
    by_cases hd : In_ (nI 0) (nI 40) d = true
    · obtain ⟨k, hk, rfl⟩ := In_of (by decide) hd
      obtain ⟨a, c, ha, hc, ea, ec, ed⟩ := dust_n I hj
      have hkc : k * c ≤ 40 * 9 := Nat.mul_le_mul hk hc
      have ec2 : sT_ (M 1) j 2 / nI 5 + nI 1 = nI c := by
        rw [← ec]
        unfold dpd_
        rw [Int32.add_comm]
      rw [if_neg (fun q => q hd), if_pos hd, if_pos (Int32.le_refl _), m_sv hl (show 34 + 7 * j + 2 < 110 by omega), kj_i3, m_sv hl (show 34 + 7 * j + 3 < 110 by omega), Option.bind_some, Option.bind_some, kj_i5, fx_div_k (by decide), Option.bind_some, m5_1, ec2, ea, pk_mul, nI_add]
      unfold F_X6_least
      rw [kk_b20, min_m (by omega), Option.bind_some, cl_nI (show j < 2 ^ 31 by omega), cl_nI (show k < 2 ^ 31 by omega), ed]
      rfl
    · rw [if_pos hd, if_neg hd, if_neg (by decide)]
      rfl
  · rw [if_neg hs, if_neg hs, if_neg (by decide)]
    rfl
theorem qb_dust {s d : Int32} : qb_ exI_.length (q_dust T n s d) := by
  unfold q_dust
  intro i
  repeat' split
  all_goals (intro e; cases e; try decide)
/-! rents to come -/
def rs_ (T : Nat → Int32) (n : Nat) (m : Nat) : Int32 × (Nat → Int32) := fo_ (fun _ z => (z.1 + (tDays_ z.2 n).1, tDay_ z.2 n)) (nI 0, T) m
def q_rents (T : Nat → Int32) (n : Nat) (d : Int32) : Int32 ⊕ Nat := if In_ (nI 0) (nI 40) d = true then .inl (rs_ T n (cl_ d)).1 else .inr 0
theorem rs_I (I : I_ T n) (h0 : T 0 = nI n) : ∀ m, I_ (rs_ T n m).2 n ∧ (rs_ T n m).2 0 = nI n
  | 0 => ⟨I, h0⟩
  | m + 1 => by
    obtain ⟨I1, h1⟩ := rs_I I h0 m
    show I_ (tDay_ (rs_ T n m).2 n) n ∧ tDay_ (rs_ T n m).2 n 0 = nI n
    refine ⟨I_day I1, ?_⟩
    unfold tDay_
    rw [pk_un (by decide), pk_un (by decide), tDays_0, h1]
theorem c_rents (hl : ov_L 16 l h) (R : R_ g w T n) {A : Nat → Nat} (hx : ∀ w', fx_gR (tv_ l g w' h) x0 5 1 = some (l 0)) (hk : k ≤ 40) : ∃ w', F_X5_rentsIn_L36 1000 x0 (nI k) (nI 0) (nI 0) (tv_ l g w h) = some ((rs_ T n k).1, tv_ l g w' h) := by
  obtain ⟨z, e, hp⟩ := lp_ (n := k) (f := fun m i (z : Int32 × mm_S) => F_X5_rentsIn_L36 m x0 (nI k) z.1 (nI i) z.2) (P := fun i z => ∃ w', z = ((rs_ T n i).1, tv_ l g w' h) ∧ R_ g w' (rs_ T n i).2 n) (fun m i z hi hp => by
    obtain ⟨w1, rfl, R1⟩ := hp
    obtain ⟨w2, e2, R2⟩ := c_day hl R1
    refine ⟨_, ?_, w2, rfl, R2⟩
    dsimp only
    rw [F_X5_rentsIn_L36, if_neg (nI_ge hi (by omega)), hx, Option.bind_some, tv_is hl, Option.bind_some, e2, Option.bind_some, nI_s]
    rfl) k 0 (nI 0, tv_ l g w h) 1000 (by omega) ⟨w, rfl, R⟩ (by omega)
  obtain ⟨w', rfl, -⟩ := hp
  dsimp only at e
  refine ⟨w', ?_⟩
  rw [e, show 1000 - k = (999 - k) + 1 from by omega, F_X5_rentsIn_L36, if_pos (Int32.le_refl _)]
theorem m_rents (hl : ov_L 11 l h) (hT : M 1 0 = nI n) (hn : n ≤ 10) (I : I_ (M 1) n) (hk : k ≤ 40) : F_X6_rentsIn_L42 1000 (l 0) (nI k) (nI 0) (nI 0) (mv_ l M h) = some ((rs_ (M 1) n k).1, mv_ l (mT_ M (rs_ (M 1) n k).2) h) := by
  obtain ⟨z, e, hp⟩ := lp_ (n := k) (f := fun m i (z : Int32 × mm_S) => F_X6_rentsIn_L42 m (l 0) (nI k) z.1 (nI i) z.2) (P := fun i z => z = ((rs_ (M 1) n i).1, mv_ l (mT_ M (rs_ (M 1) n i).2) h)) (fun m i z hi hp => by
    subst hp
    refine ⟨_, ?_, rfl⟩
    obtain ⟨I1, h1⟩ := rs_I I hT i
    have e2 := m_day (M := mT_ M (rs_ (M 1) n i).2) (h := h) hl (by rw [mT_1]; exact h1) hn (by rw [mT_1]; exact I1)
    rw [mT_1, mT_T] at e2
    dsimp only
    rw [F_X6_rentsIn_L42, if_neg (nI_ge hi (by omega)), mv_is hl, Option.bind_some, e2, Option.bind_some, nI_s]
    rfl) k 0 (nI 0, mv_ l M h) 1000 (by omega) (by
      show _ = (nI 0, mv_ l (mT_ M (M 1)) h)
      rw [mT_s]) (by omega)
  subst hp
  dsimp only at e
  rw [e, show 1000 - k = (999 - k) + 1 from by omega, F_X6_rentsIn_L42, if_pos (Int32.le_refl _)]
end Q5
section W5
variable {A : Nat → Nat} {GG : Nat → Nat → Nat} {Z : Nat → Nat → Int32} {XL : Nat → Int64} {cap : Nat} {K : Nat → mm_Ce} {h h1 : mm_S}
theorem o_dustIn (hs : ST_ A K h) (a x : Int32) : RS_ A K exI_ ((F_X5_dustIn h (A 209) a x).bind fun o => some (o, h)) (fun h1 => F_X6_dustIn h1 (A 213) a x) := by
  obtain ⟨GG, Z, XL, cap, hW, s⟩ := hs
  obtain ⟨n, hn, hT, R, I⟩ := TR_n s.1
  refine q_simple (c := fun h => F_X5_dustIn h (A 209) a x) (q := q_dust (Z 214) n a x) hW s (cq_dustI (WD_t hW (by decide)).1 R I (x_now hW) a x) (fun K h hW => ?_) qb_dust
  unfold F_X6_dustIn
  have e := mq_dust (WD_m hW).1 (M := mw_ Z) hT hn I a x
  rw [show fx_is (mv_ (lm_ A) (mw_ Z) h) (A 213) 6 = some () from mv_is (WD_m hW).1, Option.bind_some, show F_X6_dustBy (mv_ (lm_ A) (mw_ Z) h) (A 213) a x = _ from e, Option.bind_some]
theorem o_dustAgain (hs : ST_ A K h) (a x : Int32) : RS_ A K exI_ ((F_X5_dustAgain h (A 209) a x).bind fun o => some (o, h)) (fun h1 => F_X6_dustAgain h1 (A 213) a x) := by
  obtain ⟨GG, Z, XL, cap, hW, s⟩ := hs
  obtain ⟨n, hn, hT, R, I⟩ := TR_n s.1
  refine q_simple (c := fun h => F_X5_dustAgain h (A 209) a x) (q := q_dust (Z 214) n a x) hW s (cq_dustA (WD_t hW (by decide)).1 R I (x_now hW) a x) (fun K h hW => ?_) qb_dust
  unfold F_X6_dustAgain
  have e := mq_dust (WD_m hW).1 (M := mw_ Z) hT hn I a x
  rw [show fx_is (mv_ (lm_ A) (mw_ Z) h) (A 213) 6 = some () from mv_is (WD_m hW).1, Option.bind_some, show F_X6_dustBy (mv_ (lm_ A) (mw_ Z) h) (A 213) a x = _ from e, Option.bind_some]
theorem qb_best {T : Nat → Int32} {n : Nat} {a : Int32} : qb_ exN_.length (q_best T n a) := by
  unfold q_best
  intro i
  repeat' split
  all_goals (intro e; cases e; try decide)
theorem qb_can {T : Nat → Int32} {n : Nat} {a : Int32} : qb_ exI_.length (q_can T n a) := by
  unfold q_can
  intro i
  repeat' split
  all_goals (intro e; cases e; try decide)
theorem qb_rank {T : Nat → Int32} {n : Nat} {a x : Int32} : qb_ exA_.length (q_rank T n a x) := by
  unfold q_rank
  intro i
  repeat' split
  all_goals (intro e; cases e; try decide)
theorem o_bestLevy (hs : ST_ A K h) (a : Int32) : RS_ A K exN_ ((F_X5_bestLevy h (A 209) a).bind fun o => some (o, h)) (fun h1 => F_X6_bestLevy h1 (A 213) a) := by
  obtain ⟨GG, Z, XL, cap, hW, s⟩ := hs
  obtain ⟨n, hn, hT, R, I⟩ := TR_n s.1
  exact q_part (c := fun h => F_X5_bestLevy h (A 209) a) hW s (cq_best (WD_t hW (by decide)).1 R I (x_now hW) a) (fun _ _ w => mq_best (WD_m w).1 hT hn I a) qb_best
theorem o_canTake (hs : ST_ A K h) (a : Int32) : RS_ A K exI_ ((F_X5_canTake h (A 209) a).bind fun o => some (o, h)) (fun h1 => F_X6_canTake h1 (A 213) a) := by
  obtain ⟨GG, Z, XL, cap, hW, s⟩ := hs
  obtain ⟨n, hn, hT, R, I⟩ := TR_n s.1
  exact q_part (c := fun h => F_X5_canTake h (A 209) a) hW s (cq_can (WD_t hW (by decide)).1 R I (x_now hW) a) (fun _ _ w => mq_can (WD_m w).1 hT hn I a) qb_can
theorem o_ranked (hs : ST_ A K h) (a x : Int32) : RS_ A K exA_ ((F_X5_ranked h (A 209) a x).bind fun o => some (o, h)) (fun h1 => F_X6_ranked h1 (A 213) a x) := by
  obtain ⟨GG, Z, XL, cap, hW, s⟩ := hs
  obtain ⟨n, hn, hT, R, I⟩ := TR_n s.1
  exact q_simple (c := fun h => F_X5_ranked h (A 209) a x) hW s (cq_rank (WD_t hW (by decide)).1 R (x_now hW) a x (qP_u hn)) (fun _ _ w => mq_rank (WD_m w).1 hT hn a x) qb_rank
/-- plain answers -/
def PS_ (A : Nat → Nat) (K : Nat → mm_Ce) (c : Option (Int32 × mm_S)) (m : mm_S → Option (Int32 × mm_S)) : Prop := ∃ h1 v h2, c = some (v, h1) ∧ m h1 = some (v, h2) ∧ ST_ A K h2
theorem p_gen {c : Option (Int32 × mm_S)} {m : mm_S → Option (Int32 × mm_S)} {v : Int32} (W1 : WD_ A GG Z XL cap K h1) (s : SM_ GG Z XL cap) (hc : c = some (v, h1)) (hm : ∃ M', m (mv_ (lm_ A) (mw_ Z) h1) = some (v, mv_ (lm_ A) M' h1) ∧ NB_ (mw_ Z) M') : PS_ A K c m := by
  obtain ⟨M', e, nb⟩ := hm
  rw [(WD_m W1).2] at e
  exact ⟨h1, v, _, hc, e, (NB_ST W1 s nb).1⟩
theorem o_takable (hs : ST_ A K h) : PS_ A K ((F_X5_takable h (A 209)).bind fun o => some (o, h)) (fun h1 => F_X6_takable h1 (A 213)) := by
  obtain ⟨GG, Z, XL, cap, hW, s⟩ := hs
  obtain ⟨n, hn, hT, R, I⟩ := TR_n s.1
  have e := cq_tk (WD_t hW (show 0 < 11 by decide)).1 R I (x_now hW)
  rw [(WD_t hW (by decide)).2] at e
  obtain ⟨M', e2, nb, -⟩ := mq_tk (M := mw_ Z) (WD_m hW).1 hT hn I
  exact p_gen hW s (by rw [e]; rfl) ⟨M', e2, nb⟩
theorem o_turn (hs : ST_ A K h) : PS_ A K ((F_X5_turn h (A 209)).bind fun o => some (o, h)) (fun h1 => F_X6_turn h1 (A 213)) := by
  obtain ⟨GG, Z, XL, cap, hW, s⟩ := hs
  obtain ⟨n, hn, hT, R, I⟩ := TR_n s.1
  have hl := (WD_t hW (show 0 < 11 by decide)).1
  have e := T_t hl R
  rw [(WD_t hW (by decide)).2] at e
  refine p_gen (v := Z 214 3) hW s ?_ ⟨m5_ (mw_ Z) (nI 0), ?_, NB_m5⟩
  · unfold F_X5_turn
    rw [X_now hW, Option.bind_some, show fx_gI h (A 0) 3 5 = _ from e]
    rfl
  · have hm := (WD_m hW).1
    unfold F_X6_turn
    rw [show ki 0 = nI 0 from rfl, show fx_pV (mv_ (lm_ A) (mw_ Z) h) (A 213) 6 5 (.int (nI 0)) = _ from m5_e hm, Option.bind_some, show fx_gR (mv_ (lm_ A) (m5_ (mw_ Z) (nI 0)) h) (A 213) 6 0 = _ from mr_0 hm, Option.bind_some, kj_i3, m_at hm (by decide), Option.bind_some, m5_1]
theorem o_faultPosition (hs : ST_ A K h) : PS_ A K ((F_X5_faultPosition h (A 209)).bind fun o => some (o, h)) (fun h1 => F_X6_faultPosition h1 (A 213)) := by
  obtain ⟨GG, Z, XL, cap, hW, s⟩ := hs
  refine p_gen (v := Z 209 9) hW s ?_ ⟨m5_ (mw_ Z) (nI 0), ?_, NB_m5⟩
  · unfold F_X5_faultPosition
    rw [X_flt hW]
    rfl
  · have hm := (WD_m hW).1
    unfold F_X6_faultPosition
    rw [show ki 0 = nI 0 from rfl, show fx_pV (mv_ (lm_ A) (mw_ Z) h) (A 213) 6 5 (.int (nI 0)) = _ from m5_e hm, Option.bind_some, show fx_gI (mv_ (lm_ A) (m5_ (mw_ Z) (nI 0)) h) (A 213) 6 13 = _ from mg_13 hm, Option.bind_some, s.2.2.2.2.2.1]
    unfold m5_
    rw [w2_n2 (by decide)]
end W5

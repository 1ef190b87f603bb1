/-! take, a day, build, tear -/
def tMore_ (d x : Int32) : Int32 := if d + x < nI 20 then d + x else nI 20
def tEnd_ (T : Nat → Int32) (j : Nat) : Nat → Int32 := tS_ (tS_ T j 5 m1_) j 6 (nI 0)
/-- a rent is given by the giant b -/
def tGive_ (T : Nat → Int32) (j b : Nat) : Nat → Int32 := tS_ (upd (upd (tG_ (tG_ T b 0 (gT_ T b 0 - rent_ (sT_ T j))) b 3 (gT_ T b 3 + rent_ (sT_ T j))) 2 (T 2 + rent_ (sT_ T j))) 4 (T 4 + rent_ (sT_ T j))) j 6 (sT_ T j 6 - nI 1)
def tRentN_ (T : Nat → Int32) (j : Nat) : Int32 := if In_ (nI 0) (nI 1) (sT_ T j 5) = true ∧ rent_ (sT_ T j) ≤ gT_ T (cl_ (sT_ T j 5)) 0 then rent_ (sT_ T j) else nI 0
def tRent_ (T : Nat → Int32) (j : Nat) : Nat → Int32 := if In_ (nI 0) (nI 1) (sT_ T j 5) = true then (if rent_ (sT_ T j) ≤ gT_ T (cl_ (sT_ T j 5)) 0 then (if sT_ T j 6 - nI 1 = nI 0 then tEnd_ (tGive_ T j (cl_ (sT_ T j 5))) j else tGive_ T j (cl_ (sT_ T j 5))) else tEnd_ T j) else T
def tDust_ (T : Nat → Int32) (j : Nat) : Nat → Int32 := tS_ T j 3 (tMore_ (sT_ T j 3) (dpd_ (sT_ T j)))
def tDays_ (T : Nat → Int32) (n : Nat) : Int32 × (Nat → Int32) := fo_ (fun j x => (x.1 + tRentN_ (tDust_ x.2 j) j, tRent_ (tDust_ x.2 j) j)) (nI 0, T) n
def tDay_ (T : Nat → Int32) (n : Nat) : Nat → Int32 := upd (upd (tDays_ T n).2 1 ((tDays_ T n).2 1 + nI 1)) 3 (nI 1 - (tDays_ T n).2 3)
section OP
variable {l g : Nat → Nat} {w : Nat → Nat → Int32} {h : mm_S} {i k j b n : Nat} {v : Int32} {T : Nat → Int32}
theorem c_takeB (hl : ov_L 16 l h) (R : R_ g w T n) (hb : b < 2) (hi : i < 8) (h3 : T 3 = nI b) : ∃ w', F_X3_takeLanding_B64 (tv_ l g w h) (l 0) (nI i) (l (b + 4)) = some (gT_ T b 0, tv_ l g w' h) ∧ R_ g w' (upd (tO_ T i (nI b)) 8 (T 8 + nI 1)) n := by
  have R1 := R_pO R hi (nI b)
  have R2 := R_pN R1 nk8 (T 8 + nI 1)
  refine ⟨_, ?_, R2⟩
  unfold F_X3_takeLanding_B64
  simp [tv_r0 hl, tv_r1 hl, tv_r2 hl, tv_is hl, Option.bind_some, kk_m2, kk_m3, kk_n1, kj_i0, kj_l0, kj_i1, kj_l1, kj_i2, kj_l2, kj_i3, kj_l3, kj_i4, kj_l4, kj_i5, kj_l5, kj_i6, kj_l6, kj_i7, kj_l7, kj_i8, kj_l8, kj_i9, kj_l9, kj_i10, kj_l10, kj_i11, kj_l11, kj_i12, kj_l12, kj_i13, kj_l13, kj_i14, kj_l14, kj_i15, kj_l15, kj_i16, kj_l16, kk_b6, kk_b7, kk_b8, kk_b9, kk_b10, kk_b11, kk_b12, kk_b13, kk_b14, kk_b15, kk_b16, kk_b20, kk_b40, nI_add, hb, hi, T_t hl R, h3, tv_sO hl hi, T_k hl R1, tv_pN hl (show 3 ≤ 8 by decide) (show 8 < 10 by decide), T_G hl R2 hb (show 0 < 5 by decide), sS_at, sS_ne, sG, sO, sN, gG_at, gG_ne, gS, gO, gN, oO_at, oO_ne, oS, oG, oN, nS, nG, nO, and_false, false_and, not_false_eq_true, not_true_eq_false, and_true, true_and]
theorem c_take (hl : ov_L 16 l h) (R : R_ g w T n) (hb : b < 2) (h3 : T 3 = nI b) (hi : i < 8) : ∃ w', F_X3_takeLanding (tv_ l g w h) (l 0) (nI i) = some (gT_ T b 0 - price_ T i, tv_ l g w' h) ∧ R_ g w' (tTake_ T b i) n := by
  have hb1 : 1 - b < 2 := by omega
  have hbb : ¬ b = 1 - b := by omega
  have hbc : ¬ 1 - b = b := by omega
  have hp := T_price hl R hi
  have R1 := R_pG R hb (show 0 < 5 by decide) (gT_ T b 0 - price_ T i)
  have R2 := R_pN R1 nk6 (T 2 + nI 5)
  unfold F_X3_takeLanding tTake_ tPay_
  rw [show (if oT_ T i = nI 2 then nI 5 else nI 10) = price_ T i from rfl] at hp
  simp [tv_r0 hl, tv_r1 hl, tv_r2 hl, tv_is hl, Option.bind_some, kk_m2, kk_m3, kk_n1, kj_i0, kj_l0, kj_i1, kj_l1, kj_i2, kj_l2, kj_i3, kj_l3, kj_i4, kj_l4, kj_i5, kj_l5, kj_i6, kj_l6, kj_i7, kj_l7, kj_i8, kj_l8, kj_i9, kj_l9, kj_i10, kj_l10, kj_i11, kj_l11, kj_i12, kj_l12, kj_i13, kj_l13, kj_i14, kj_l14, kj_i15, kj_l15, kj_i16, kj_l16, kk_b6, kk_b7, kk_b8, kk_b9, kk_b10, kk_b11, kk_b12, kk_b13, kk_b14, kk_b15, kk_b16, kk_b20, kk_b40, nI_add, hb, hi, T_t hl R, h3, tv_aG hl hb, T_G hl R hb (show 0 < 5 by decide), hp, tv_pG hl (gi_b hb) (show 0 < 5 by decide), T_c hl R1, tv_pN hl (show 3 ≤ 6 by decide) (show 6 < 10 by decide), T_O hl R2 hi, T_t hl R2, sS_at, sS_ne, sG, sO, sN, gG_at, gG_ne, gS, gO, gN, oO_at, oO_ne, oS, oG, oN, nS, nG, nO, and_false, false_and, not_false_eq_true, not_true_eq_false, and_true, true_and]
  by_cases h1 : oT_ T i = nI 2
  · obtain ⟨w', e, R'⟩ := c_takeB hl R2 hb hi (by simp [sS_at, sS_ne, sG, sO, sN, gG_at, gG_ne, gS, gO, gN, oO_at, oO_ne, oS, oG, oN, nS, nG, nO, and_false, false_and, not_false_eq_true, not_true_eq_false, and_true, true_and, pk_un, h3])
    refine ⟨w', ?_, ?_⟩
    · simp only [h1, if_true]
      rw [e]
      simp [sS_at, sS_ne, sG, sO, sN, gG_at, gG_ne, gS, gO, gN, oO_at, oO_ne, oS, oG, oN, nS, nG, nO, and_false, false_and, not_false_eq_true, not_true_eq_false, and_true, true_and]
    · simpa [h1, sS_at, sS_ne, sG, sO, sN, gG_at, gG_ne, gS, gO, gN, oO_at, oO_ne, oS, oG, oN, nS, nG, nO, and_false, false_and, not_false_eq_true, not_true_eq_false, and_true, true_and, pk_un] using R'
  · have R3 := R_pG R2 hb1 (show 0 < 5 by decide) (gT_ T (1 - b) 0 + nI 5)
    obtain ⟨w', e, R'⟩ := c_takeB hl R3 hb hi (by simp [sS_at, sS_ne, sG, sO, sN, gG_at, gG_ne, gS, gO, gN, oO_at, oO_ne, oS, oG, oN, nS, nG, nO, and_false, false_and, not_false_eq_true, not_true_eq_false, and_true, true_and, pk_un, h3])
    refine ⟨w', ?_, ?_⟩
    · simp only [h1, if_false]
      simp [tv_r0 hl, tv_r1 hl, tv_r2 hl, tv_is hl, Option.bind_some, kk_m2, kk_m3, kk_n1, kj_i0, kj_l0, kj_i1, kj_l1, kj_i2, kj_l2, kj_i3, kj_l3, kj_i4, kj_l4, kj_i5, kj_l5, kj_i6, kj_l6, kj_i7, kj_l7, kj_i8, kj_l8, kj_i9, kj_l9, kj_i10, kj_l10, kj_i11, kj_l11, kj_i12, kj_l12, kj_i13, kj_l13, kj_i14, kj_l14, kj_i15, kj_l15, kj_i16, kj_l16, kk_b6, kk_b7, kk_b8, kk_b9, kk_b10, kk_b11, kk_b12, kk_b13, kk_b14, kk_b15, kk_b16, kk_b20, kk_b40, nI_add, hb, hb1, pk_un, h3, u1 hb, tv_aG hl hb1, T_G hl R2 hb1 (show 0 < 5 by decide), tv_pG hl (gi_b hb1) (show 0 < 5 by decide), sS_at, sS_ne, sG, sO, sN, gG_at, gG_ne, gS, gO, gN, oO_at, oO_ne, oS, oG, oN, nS, nG, nO, and_false, false_and, not_false_eq_true, not_true_eq_false, and_true, true_and, hbb, hbc]
      rw [e]
      simp [sS_at, sS_ne, sG, sO, sN, gG_at, gG_ne, gS, gO, gN, oO_at, oO_ne, oS, oG, oN, nS, nG, nO, and_false, false_and, not_false_eq_true, not_true_eq_false, and_true, true_and, hb1, hbb, hbc]
    · simpa [h1, sS_at, sS_ne, sG, sO, sN, gG_at, gG_ne, gS, gO, gN, oO_at, oO_ne, oS, oG, oN, nS, nG, nO, and_false, false_and, not_false_eq_true, not_true_eq_false, and_true, true_and, pk_un, hb1] using R'
theorem c_end (hl : ov_L 16 l h) (R : R_ g w T n) (hj : j < n) : ∃ w', F_X2_endLease (tv_ l g w h) (l (g j)) = some (tv_ l g w' h) ∧ R_ g w' (tEnd_ T j) n := by
  have hs := R_si R hj
  have R1 := R_pS R hj (show 5 < 7 by decide) m1_
  have R2 := R_pS R1 hj (show 6 < 7 by decide) (nI 0)
  refine ⟨_, ?_, R2⟩
  unfold F_X2_endLease
  simp [tv_r0 hl, tv_r1 hl, tv_r2 hl, tv_is hl, Option.bind_some, kk_m2, kk_m3, kk_n1, kj_i0, kj_l0, kj_i1, kj_l1, kj_i2, kj_l2, kj_i3, kj_l3, kj_i4, kj_l4, kj_i5, kj_l5, kj_i6, kj_l6, kj_i7, kj_l7, kj_i8, kj_l8, kj_i9, kj_l9, kj_i10, kj_l10, kj_i11, kj_l11, kj_i12, kj_l12, kj_i13, kj_l13, kj_i14, kj_l14, kj_i15, kj_l15, kj_i16, kj_l16, kk_b6, kk_b7, kk_b8, kk_b9, kk_b10, kk_b11, kk_b12, kk_b13, kk_b14, kk_b15, kk_b16, kk_b20, kk_b40, nI_add, tv_pS hl hs (show 5 < 7 by decide), tv_pS hl hs (show 6 < 7 by decide)]
theorem c_rent (hl : ov_L 16 l h) (R : R_ g w T n) (hj : j < n) : ∃ w', F_X3_giveRent (tv_ l g w h) (l 0) (l (g j)) = some (tRentN_ T j, tv_ l g w' h) ∧ R_ g w' (tRent_ T j) n := by
  have hs := R_si R hj
  unfold F_X3_giveRent tRentN_ tRent_
  simp [tv_r0 hl, tv_r1 hl, tv_r2 hl, tv_is hl, Option.bind_some, kk_m2, kk_m3, kk_n1, kj_i0, kj_l0, kj_i1, kj_l1, kj_i2, kj_l2, kj_i3, kj_l3, kj_i4, kj_l4, kj_i5, kj_l5, kj_i6, kj_l6, kj_i7, kj_l7, kj_i8, kj_l8, kj_i9, kj_l9, kj_i10, kj_l10, kj_i11, kj_l11, kj_i12, kj_l12, kj_i13, kj_l13, kj_i14, kj_l14, kj_i15, kj_l15, kj_i16, kj_l16, kk_b6, kk_b7, kk_b8, kk_b9, kk_b10, kk_b11, kk_b12, kk_b13, kk_b14, kk_b15, kk_b16, kk_b20, kk_b40, nI_add, T_is hl R hj, T_leased hl R hj, bI_n]
  by_cases h1 : In_ (nI 0) (nI 1) (sT_ T j 5) = true
  · obtain ⟨b, hb, eb⟩ := In_of (by decide) h1
    have hb : b < 2 := by omega
    rw [eb] at h1 ⊢
    have hr := T_rent hl R hj
    simp [tv_r0 hl, tv_r1 hl, tv_r2 hl, tv_is hl, Option.bind_some, kk_m2, kk_m3, kk_n1, kj_i0, kj_l0, kj_i1, kj_l1, kj_i2, kj_l2, kj_i3, kj_l3, kj_i4, kj_l4, kj_i5, kj_l5, kj_i6, kj_l6, kj_i7, kj_l7, kj_i8, kj_l8, kj_i9, kj_l9, kj_i10, kj_l10, kj_i11, kj_l11, kj_i12, kj_l12, kj_i13, kj_l13, kj_i14, kj_l14, kj_i15, kj_l15, kj_i16, kj_l16, kk_b6, kk_b7, kk_b8, kk_b9, kk_b10, kk_b11, kk_b12, kk_b13, kk_b14, kk_b15, kk_b16, kk_b20, kk_b40, nI_add, h1, hb, T_S hl R hj (show 5 < 7 by decide), eb, tv_aG hl hb, hr, T_G hl R hb (show 0 < 5 by decide), cl_nI (show b < 2 ^ 31 by omega)]
    generalize er : rent_ (sT_ T j) = r at hr ⊢
    by_cases h2 : r ≤ gT_ T b 0
    · have R1 := R_pG R hb (show 0 < 5 by decide) (gT_ T b 0 - r)
      have R2 := R_pG R1 hb (show 3 < 5 by decide) (gT_ T b 3 + r)
      have R3 := R_pN R2 nk6 (T 2 + r)
      have R4 := R_px R3 (m := 4) (by decide) (T 4 + r)
      have R5 := R_pS R4 hj (show 6 < 7 by decide) (sT_ T j 6 - nI 1)
      have eG : tS_ (upd (upd (tG_ (tG_ T b 0 (gT_ T b 0 - r)) b 3 (gT_ T b 3 + r)) 2 (T 2 + r)) 4 (T 4 + r)) j 6 (sT_ T j 6 - nI 1) = tGive_ T j b := by
        unfold tGive_
        rw [er]
      rw [eG] at R5
      have e6 : sT_ (tGive_ T j b) j 6 = sT_ T j 6 - nI 1 := by
        unfold tGive_
        simp [sS_at, sS_ne, sG, sO, sN, gG_at, gG_ne, gS, gO, gN, oO_at, oO_ne, oS, oG, oN, nS, nG, nO, and_false, false_and, not_false_eq_true, not_true_eq_false, and_true, true_and]
      simp [tv_r0 hl, tv_r1 hl, tv_r2 hl, tv_is hl, Option.bind_some, kk_m2, kk_m3, kk_n1, kj_i0, kj_l0, kj_i1, kj_l1, kj_i2, kj_l2, kj_i3, kj_l3, kj_i4, kj_l4, kj_i5, kj_l5, kj_i6, kj_l6, kj_i7, kj_l7, kj_i8, kj_l8, kj_i9, kj_l9, kj_i10, kj_l10, kj_i11, kj_l11, kj_i12, kj_l12, kj_i13, kj_l13, kj_i14, kj_l14, kj_i15, kj_l15, kj_i16, kj_l16, kk_b6, kk_b7, kk_b8, kk_b9, kk_b10, kk_b11, kk_b12, kk_b13, kk_b14, kk_b15, kk_b16, kk_b20, kk_b40, nI_add, h2, hb, tv_pG hl (gi_b hb) (show 0 < 5 by decide), tv_pG hl (gi_b hb) (show 3 < 5 by decide), T_G hl R1 hb (show 3 < 5 by decide), T_c hl R2, tv_pN hl (show 3 ≤ 6 by decide) (show 6 < 10 by decide), T_S hl R3 hj (show 6 < 7 by decide), tv_pS hl hs (show 6 < 7 by decide), T_S hl R5 hj (show 6 < 7 by decide), T_is hl R5 hj, e6, sS_at, sS_ne, sG, sO, sN, gG_at, gG_ne, gS, gO, gN, oO_at, oO_ne, oS, oG, oN, nS, nG, nO, and_false, false_and, not_false_eq_true, not_true_eq_false, and_true, true_and]
      by_cases h3 : sT_ T j 6 - nI 1 = nI 0
      · obtain ⟨w', e, R'⟩ := c_end hl R5 hj
        refine ⟨w', ?_, ?_⟩
        · simp [h3]
          rw [h3] at e
          simp [e]
        · simpa [h3] using R'
      · refine ⟨w2_ (w2_ (w2_ (w2_ w (b + 4) 0 (gT_ T b 0 - r)) (b + 4) 3 (gT_ T b 3 + r)) 0 6 (T 2 + r)) (g j) 6 (sT_ T j 6 - nI 1), ?_, ?_⟩
        · simp [h3]
        · simpa [h3] using R5
    · obtain ⟨w', e, R'⟩ := c_end hl R hj
      refine ⟨w', ?_, ?_⟩
      · simp [h2, e]
      · simpa [h2] using R'
  · simp [h1]
    exact ⟨w, rfl, R⟩
theorem c_days (hl : ov_L 16 l h) (R : R_ g w T n) : ∃ w', F_X3_passDay_L4 1000 (l 0) (nI 0) (nI 0) (tv_ l g w h) = some ((tDays_ T n).1, tv_ l g w' h) ∧ R_ g w' (tDays_ T n).2 n := by
  have hn := R_n R
  obtain ⟨⟨x2, h2⟩, e, hp⟩ := lp_ (n := n) (f := fun m i (x : Int32 × mm_S) => F_X3_passDay_L4 m (l 0) x.1 (nI i) x.2) (P := fun i x => ∃ w', x = ((tDays_ T i).1, tv_ l g w' h) ∧ R_ g w' (tDays_ T i).2 n) (fun m i x hi hp => by
    obtain ⟨w1, rfl, Q⟩ := hp
    have hs := R_si Q hi
    have Q1 := R_pS Q hi (show 3 < 7 by decide) (tMore_ (sT_ (tDays_ T i).2 i 3) (dpd_ (sT_ (tDays_ T i).2 i)))
    obtain ⟨w2, e2, Q2⟩ := c_rent hl Q1 hi
    refine ⟨_, ?_, w2, rfl, Q2⟩
    dsimp only
    rw [F_X3_passDay_L4, T_n hl Q, Option.bind_some, if_neg (nI_ge hi (by omega))]
    have e3 : (if sT_ (tDays_ T i).2 i 3 + dpd_ (sT_ (tDays_ T i).2 i) < nI 20 then sT_ (tDays_ T i).2 i 3 + dpd_ (sT_ (tDays_ T i).2 i) else nI 20) = tMore_ (sT_ (tDays_ T i).2 i 3) (dpd_ (sT_ (tDays_ T i).2 i)) := rfl
    simp only [tv_r0 hl, tv_r1 hl, tv_r2 hl, tv_is hl, Option.bind_some, kk_m2, kk_m3, kk_n1, kj_i0, kj_l0, kj_i1, kj_l1, kj_i2, kj_l2, kj_i3, kj_l3, kj_i4, kj_l4, kj_i5, kj_l5, kj_i6, kj_l6, kj_i7, kj_l7, kj_i8, kj_l8, kj_i9, kj_l9, kj_i10, kj_l10, kj_i11, kj_l11, kj_i12, kj_l12, kj_i13, kj_l13, kj_i14, kj_l14, kj_i15, kj_l15, kj_i16, kj_l16, kk_b6, kk_b7, kk_b8, kk_b9, kk_b10, kk_b11, kk_b12, kk_b13, kk_b14, kk_b15, kk_b16, kk_b20, kk_b40, nI_add, T_aS hl Q hi, T_S hl Q hi (show 3 < 7 by decide), T_is hl Q hi, T_dpd hl Q hi, tv_pS hl hs (show 3 < 7 by decide), e3]
    rw [e2]
    rfl) n 0 (nI 0, tv_ l g w h) 1000 (by omega) ⟨w, rfl, R⟩ (by omega)
  obtain ⟨w', e2, Q⟩ := hp
  refine ⟨w', ?_, Q⟩
  dsimp only at e
  rw [e, show 1000 - n = (999 - n) + 1 from by omega]
  cases e2
  rw [F_X3_passDay_L4, T_n hl Q, Option.bind_some, if_pos (Int32.le_refl _)]
theorem c_day (hl : ov_L 16 l h) (R : R_ g w T n) : ∃ w', F_X3_passDay (tv_ l g w h) (l 0) = some ((tDays_ T n).1, tv_ l g w' h) ∧ R_ g w' (tDay_ T n) n := by
  obtain ⟨w1, e, R1⟩ := c_days hl R
  have R2 := R_pN R1 nk4 ((tDays_ T n).2 1 + nI 1)
  have R3 := R_pN R2 nk5 (nI 1 - (tDays_ T n).2 3)
  refine ⟨_, ?_, R3⟩
  unfold F_X3_passDay
  rw [show ki 0 = nI 0 from rfl, e]
  simp [tv_r0 hl, tv_r1 hl, tv_r2 hl, tv_is hl, Option.bind_some, kk_m2, kk_m3, kk_n1, kj_i0, kj_l0, kj_i1, kj_l1, kj_i2, kj_l2, kj_i3, kj_l3, kj_i4, kj_l4, kj_i5, kj_l5, kj_i6, kj_l6, kj_i7, kj_l7, kj_i8, kj_l8, kj_i9, kj_l9, kj_i10, kj_l10, kj_i11, kj_l11, kj_i12, kj_l12, kj_i13, kj_l13, kj_i14, kj_l14, kj_i15, kj_l15, kj_i16, kj_l16, kk_b6, kk_b7, kk_b8, kk_b9, kk_b10, kk_b11, kk_b12, kk_b13, kk_b14, kk_b15, kk_b16, kk_b20, kk_b40, nI_add, T_d hl R1, tv_pN hl (show 3 ≤ 4 by decide) (show 4 < 10 by decide), T_t hl R2, tv_pN hl (show 3 ≤ 5 by decide) (show 5 < 10 by decide), pk_un]
/-- a new staircase behind the others -/
def nS_ (a b s : Int32) (k : Nat) : Int32 := match k with
  | 0 => if b < a then b else a
  | 1 => if a < b then b else a
  | 2 => s
  | 5 => m1_
  | _ => nI 0
def tBuild_ (T : Nat → Int32) (n : Nat) (a b s : Int32) : Nat → Int32 := fun i => if i = 0 then nI (n + 1) else if 34 + 7 * n ≤ i ∧ i < 34 + 7 * n + 7 then nS_ a b s (i - (34 + 7 * n)) else T i
theorem tB_S {T : Nat → Int32} {n j k : Nat} {a b s : Int32} (hj : j ≤ n) (hk : k < 7) : sT_ (tBuild_ T n a b s) j k = if j = n then nS_ a b s k else sT_ T j k := by
  unfold sT_ tBuild_
  rw [if_neg (by omega)]
  by_cases e : j = n
  · subst e
    rw [if_pos (by omega), if_pos rfl, Nat.add_sub_cancel_left]
  · rw [if_neg (by omega), if_neg e]
theorem tB_o {T : Nat → Int32} {n i : Nat} {a b s : Int32} (h0 : i ≠ 0) (h1 : i < 34) : tBuild_ T n a b s i = T i := by
  unfold tBuild_
  rw [if_neg h0, if_neg (by omega)]
theorem R_new {w' : Nat → Nat → Int32} {T' : Nat → Int32} (R : R_ g w T n) (hn : n < 10) (h0 : T' 0 = nI (n + 1)) (hw0 : w' 0 3 = nI (n + 1)) (hz : ∀ i, i ≠ 0 → i < 34 → T' i = T i) (hwz : ∀ i c, i < 6 → ¬ (i = 0 ∧ c = 3) → w' i c = w i c) (hs : ∀ j k, j < n → k < 7 → sT_ T' j k = sT_ T j k) (hws : ∀ j k, j < n → k < 7 → w' (g j) k = w (g j) k) (he : ∀ k, k < 7 → w' (g n) k = sT_ T' n k) : R_ g w' T' (n + 1) := by
  obtain ⟨R1, ⟨a0, a1, a2, a3, a4, a5, a6, a7⟩, R3, R4, R5, R6, R7⟩ := R
  refine ⟨by omega, ⟨h0, hw0, ?_, ?_, ?_, ?_, ?_, ?_⟩, ?_, ?_, ?_, R6, R7⟩
  · rw [hwz _ _ (by omega) (by omega), hz _ (by omega) (by omega)]; exact a2
  · rw [hwz _ _ (by omega) (by omega), hz _ (by omega) (by omega)]; exact a3
  · rw [hwz _ _ (by omega) (by omega), hz _ (by omega) (by omega)]; exact a4
  · rw [hwz _ _ (by omega) (by omega), hz _ (by omega) (by omega)]; exact a5
  · rw [hwz _ _ (by omega) (by omega), hz _ (by omega) (by omega)]; exact a6
  · rw [hwz _ _ (by omega) (by omega), hz _ (by omega) (by omega)]; exact a7
  · intro c hc
    unfold oT_
    rw [hwz _ _ (by omega) (by omega), hz _ (by omega) (by omega)]
    exact R3 c hc
  · intro b c hb hc
    unfold gT_
    rw [hwz _ _ (by omega) (by omega), hz _ (by omega) (by omega)]
    exact R4 b c hb hc
  · intro j k hj hk
    by_cases e : j = n
    · rw [e]
      exact he k hk
    · rw [hws j k (by omega) hk, hs j k (by omega) hk]
      exact R5 j k (by omega) hk
theorem c_build (hl : ov_L 16 l h) (R : R_ g w T n) (hn : n < 10) (a b s : Int32) : ∃ w', F_X3_addStair (tv_ l g w h) (l 0) a b s = some (nI n, tv_ l g w' h) ∧ R_ g w' (tBuild_ T n a b s) (n + 1) := by
  have hs := R_si2 R hn
  have hs2 := hs
  unfold si_ at hs2
  have hu : ∀ j, j < n → ¬ g j = g n := fun j hj e => absurd (R.2.2.2.2.2.2 _ _ (by omega) hn e) (by omega)
  have h60 : ∀ (i : Nat), i < 6 → ¬ i = g n := by omega
  have hu2 : ∀ j, j < n → ¬ g j = 0 := fun j hj e => by
    have h2 := R_si R hj
    unfold si_ at h2
    omega
  refine ⟨w2_ (w2_ (w2_ (w2_ (w2_ (w2_ (w2_ (w2_ w (g n) 0 (if b < a then b else a)) (g n) 1 (if a < b then b else a)) (g n) 2 s) (g n) 3 (nI 0)) (g n) 4 (nI 0)) (g n) 5 m1_) (g n) 6 (nI 0)) 0 3 (nI (n + 1)), ?_, ?_⟩
  · unfold F_X3_addStair F_X2_startAnew F_X2_endLease
    have e3 : ∀ w2 : Nat → Nat → Int32, w2 0 3 = nI n → fx_gI (tv_ l g w2 h) (l 0) 3 3 = some (nI n) := fun w2 e => by rw [tv_gN hl (by decide) (by decide), e]
    have e4 : ∀ (w2 : Nat → Nat → Int32) (k : Nat) (v : Int32), w2_ w2 (g n) k v 0 3 = w2 0 3 := fun w2 k v => w2_n2 (by omega)
    simp [tv_r0 hl, tv_r1 hl, tv_r2 hl, tv_is hl, Option.bind_some, kk_m2, kk_m3, kk_n1, kj_i0, kj_l0, kj_i1, kj_l1, kj_i2, kj_l2, kj_i3, kj_l3, kj_i4, kj_l4, kj_i5, kj_l5, kj_i6, kj_l6, kj_i7, kj_l7, kj_i8, kj_l8, kj_i9, kj_l9, kj_i10, kj_l10, kj_i11, kj_l11, kj_i12, kj_l12, kj_i13, kj_l13, kj_i14, kj_l14, kj_i15, kj_l15, kj_i16, kj_l16, kk_b6, kk_b7, kk_b8, kk_b9, kk_b10, kk_b11, kk_b12, kk_b13, kk_b14, kk_b15, kk_b16, kk_b20, kk_b40, nI_add, T_n hl R, tv_aS hl hn, tv_isS hl hs, tv_pS hl hs, e3, e4, R.2.1.2.1, tv_pN hl (show 3 ≤ 3 by decide) (show 3 < 10 by decide)]
  · refine R_new R hn rfl (by simp [w2_]) (fun i h0 h1 => tB_o h0 h1) (fun i c hi hc => ?_) (fun j k hj hk => ?_) (fun j k hj hk => ?_) (fun k hk => ?_)
    · rw [w2_n2 hc]
      have h6 := h60 i hi
      simp [w2_, h6]
    · rw [tB_S (by omega) hk, if_neg (by omega)]
    · simp [w2_, hu j hj, hu2 j hj]
    · rw [tB_S (by omega) hk, if_pos rfl]
      have hgn : ¬ g n = 0 := by omega
      match k, hk with
      | 0, _ | 1, _ | 2, _ | 3, _ | 4, _ | 5, _ | 6, _ => simp [w2_, hgn, nS_]
end OP

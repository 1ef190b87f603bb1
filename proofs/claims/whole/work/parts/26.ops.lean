/-! what an order does, told of the row -/
def tHalve_ (T : Nat → Int32) (j : Nat) : Nat → Int32 := upd (tS_ (tS_ T j 2 ((sT_ T j 2 + nI 1) / nI 2)) j 4 (sT_ T j 4 + nI 1)) 9 (T 9 + nI 1)
def tLease_ (T : Nat → Int32) (j : Nat) (b d : Int32) : Nat → Int32 := tS_ (tS_ T j 5 b) j 6 d
def tLevyC_ (T : Nat → Int32) (b j : Nat) : Int32 := if gT_ T (1 - b) 0 < sT_ T j 3 / nI 4 then gT_ T (1 - b) 0 else sT_ T j 3 / nI 4
def tLevy_ (T : Nat → Int32) (b j : Nat) (c : Int32) : Nat → Int32 := tS_ (upd (tG_ (tG_ T (1 - b) 0 (gT_ T (1 - b) 0 - c)) b 0 (gT_ T b 0 + c)) 5 (T 5 + c)) j 3 (nI 0)
def tFree_ (T : Nat → Int32) (i : Nat) : Nat → Int32 := tO_ T i (nI 2)
def tToll_ (T : Nat → Int32) (b : Nat) : Nat → Int32 := upd (tG_ (tG_ (tG_ T b 0 (gT_ T b 0 - nI 1)) (1 - b) 0 (gT_ T (1 - b) 0 + nI 1)) (1 - b) 4 (gT_ T (1 - b) 4 + nI 1)) 6 (T 6 + nI 1)
def tGo_ (T : Nat → Int32) (b j : Nat) (to : Int32) : Nat → Int32 := if oT_ T (cl_ to) = nI 1 - nI b ∧ nI 0 < gT_ T b 0 then tToll_ (tG_ T b 1 to) b else tG_ T b 1 to
def tStep_ (T : Nat → Int32) (b j : Nat) (br : Int32) : Nat → Int32 := upd (tG_ (tS_ T j 3 (sT_ T j 3 - sT_ T j 3 / nI 2)) b 2 (gT_ T b 2 + br)) 7 (T 7 + br)
def tClimb_ (T : Nat → Int32) (b j : Nat) : Nat → Int32 := tStep_ (tGo_ T b j (oth_ (sT_ T j) (gT_ T b 1))) b j (cost_ (sT_ T j) (nI b))
def tPay_ (T : Nat → Int32) (b : Nat) (p : Int32) : Nat → Int32 := upd (tG_ T b 0 (gT_ T b 0 - p)) 2 (T 2 + nI 5)
def tTake_ (T : Nat → Int32) (b i : Nat) : Nat → Int32 := upd (tO_ (if oT_ T i = nI 2 then tPay_ T b (price_ T i) else tG_ (tPay_ T b (price_ T i)) (1 - b) 0 (gT_ T (1 - b) 0 + nI 5)) i (nI b)) 8 (T 8 + nI 1)
section QN
variable {T : Nat → Int32} {n : Nat} {a x d : Int32}
theorem qn_levy {q : Int32 × Int32} (e : qrLevy_ T n a x = some q) : q.1 ≠ nI 0 := by
  unfold qrLevy_ qG_ at e
  repeat' split at e
  all_goals first | (cases e; exact (by decide : nI 2 ≠ nI 0)) | (cases e; exact (by decide : nI 10 ≠ nI 0)) | (cases e; exact (by decide : nI 11 ≠ nI 0)) | cases e
theorem qn_climb {q : Int32 × Int32} (e : qrClimb_ T n a x = some q) : q.1 ≠ nI 0 := by
  unfold qrClimb_ qG_ at e
  repeat' split at e
  all_goals first | (cases e; exact (by decide : nI 2 ≠ nI 0)) | (cases e; exact (by decide : nI 8 ≠ nI 0)) | (cases e; exact (by decide : nI 9 ≠ nI 0)) | cases e
theorem qn_lease {q : Int32 × Int32} (e : qrLease_ T n a x d = some q) : q.1 ≠ nI 0 := by
  unfold qrLease_ qG_ at e
  repeat' split at e
  all_goals first | (cases e; exact (by decide : nI 2 ≠ nI 0)) | (cases e; exact (by decide : nI 3 ≠ nI 0)) | (cases e; exact (by decide : nI 7 ≠ nI 0)) | cases e
theorem qn_halve {q : Int32 × Int32} (e : qrHalve_ T n x = some q) : q.1 ≠ nI 0 := by
  unfold qrHalve_ at e
  repeat' split at e
  all_goals first | (cases e; exact (by decide : nI 2 ≠ nI 0)) | (cases e; exact (by decide : nI 6 ≠ nI 0)) | cases e
theorem qn_tear {q : Int32 × Int32} (e : qrTear_ n x = some q) : q.1 ≠ nI 0 := by
  unfold qrTear_ at e
  repeat' split at e
  all_goals first | (cases e; exact (by decide : nI 2 ≠ nI 0)) | cases e
theorem qn_build {q : Int32 × Int32} (e : qrBuild_ T n a x d = some q) : q.1 ≠ nI 0 := by
  unfold qrBuild_ at e
  repeat' split at e
  all_goals first | (cases e; exact (by decide : nI 1 ≠ nI 0)) | (cases e; exact (by decide : nI 2 ≠ nI 0)) | (cases e; exact (by decide : nI 3 ≠ nI 0)) | (cases e; exact (by decide : nI 4 ≠ nI 0)) | (cases e; exact (by decide : nI 5 ≠ nI 0)) | cases e
theorem qn_take {q : Int32 × Int32} (e : qrTake_ T n x = some q) : q.1 ≠ nI 0 := by
  unfold qrTake_ at e
  repeat' split at e
  all_goals first | (cases e; exact (by decide : nI 2 ≠ nI 0)) | (cases e; exact (by decide : nI 12 ≠ nI 0)) | (cases e; exact (by decide : nI 13 ≠ nI 0)) | (cases e; exact (by decide : nI 14 ≠ nI 0)) | (cases e; exact (by decide : nI 15 ≠ nI 0)) | cases e
theorem qn_free {q : Int32 × Int32} (e : qrFree_ T a x = some q) : q.1 ≠ nI 0 := by
  unfold qrFree_ at e
  repeat' split at e
  all_goals first | (cases e; exact (by decide : nI 2 ≠ nI 0)) | (cases e; exact (by decide : nI 12 ≠ nI 0)) | (cases e; exact (by decide : nI 13 ≠ nI 0)) | cases e
end QN
section OP
variable {l g : Nat → Nat} {w : Nat → Nat → Int32} {h : mm_S} {i k j b n : Nat} {v : Int32} {T : Nat → Int32}
theorem nk9 : nk_ 9 9 := by unfold nk_; omega
theorem nk8 : nk_ 8 8 := by unfold nk_; omega
theorem nk7 : nk_ 7 5 := by unfold nk_; omega
theorem nk6 : nk_ 6 2 := by unfold nk_; omega
theorem nk5 : nk_ 5 3 := by unfold nk_; omega
theorem nk4 : nk_ 4 1 := by unfold nk_; omega
theorem fx_div_k {x y : Int32} (h : ¬ y = 0) : fx_div x y = some (x / y) := if_neg h
theorem d2 (x : Int32) : fx_div x (nI 2) = some (x / nI 2) := if_neg (by decide)
theorem d4 (x : Int32) : fx_div x (nI 4) = some (x / nI 4) := if_neg (by decide)
theorem u1 (hb : b < 2) : nI 1 - nI b = nI (1 - b) := pk_sub (by omega)
theorem c_halve (hl : ov_L 16 l h) (R : R_ g w T n) (hj : j < n) : ∃ w', F_X3_halveSteps (tv_ l g w h) (l 0) (nI j) = some ((sT_ T j 2 + nI 1) / nI 2, tv_ l g w' h) ∧ R_ g w' (tHalve_ T j) n := by
  have R1 := R_pS R hj (show 2 < 7 by decide) ((sT_ T j 2 + nI 1) / nI 2)
  have R2 := R_pS R1 hj (show 4 < 7 by decide) (sT_ T j 4 + nI 1)
  have R3 := R_pN R2 nk9 (T 9 + nI 1)
  refine ⟨_, ?_, R3⟩
  have hs := R_si R hj
  unfold F_X3_halveSteps
  simp [tv_r0 hl, tv_r1 hl, tv_r2 hl, tv_is hl, Option.bind_some, kk_m2, kk_m3, kk_n1, kj_i0, kj_l0, kj_i1, kj_l1, kj_i2, kj_l2, kj_i3, kj_l3, kj_i4, kj_l4, kj_i5, kj_l5, kj_i6, kj_l6, kj_i7, kj_l7, kj_i8, kj_l8, kj_i9, kj_l9, kj_i10, kj_l10, kj_i11, kj_l11, kj_i12, kj_l12, kj_i13, kj_l13, kj_i14, kj_l14, kj_i15, kj_l15, kj_i16, kj_l16, kk_b6, kk_b7, kk_b8, kk_b9, kk_b10, kk_b11, kk_b12, kk_b13, kk_b14, kk_b15, kk_b16, kk_b20, kk_b40, nI_add, T_aS hl R hj, T_S hl R hj (show 2 < 7 by decide), T_S hl R hj (show 4 < 7 by decide), T_S hl R1 hj (show 2 < 7 by decide), T_S hl R1 hj (show 4 < 7 by decide), T_S hl R3 hj (show 2 < 7 by decide), T_h hl R2, d2, sS_at, sS_ne, sG, sO, sN, gG_at, gG_ne, gS, gO, gN, oO_at, oO_ne, oS, oG, oN, nS, nG, nO, and_false, false_and, not_false_eq_true, not_true_eq_false, and_true, true_and, tv_pS hl hs (show 2 < 7 by decide), tv_pS hl hs (show 4 < 7 by decide), tv_pN hl (show 3 ≤ 9 by decide) (show 9 < 10 by decide)]
theorem c_lease (hl : ov_L 16 l h) (R : R_ g w T n) (hj : j < n) (x d : Int32) : ∃ w', F_X3_leaseTo (tv_ l g w h) (l 0) x (nI j) d = some (rent_ (sT_ T j), tv_ l g w' h) ∧ R_ g w' (tLease_ T j x d) n := by
  have R1 := R_pS R hj (show 5 < 7 by decide) x
  have R2 := R_pS R1 hj (show 6 < 7 by decide) d
  refine ⟨_, ?_, R2⟩
  have hs := R_si R hj
  unfold F_X3_leaseTo
  simp only [tv_r0 hl, tv_r1 hl, tv_r2 hl, tv_is hl, Option.bind_some, kk_m2, kk_m3, kk_n1, kj_i0, kj_l0, kj_i1, kj_l1, kj_i2, kj_l2, kj_i3, kj_l3, kj_i4, kj_l4, kj_i5, kj_l5, kj_i6, kj_l6, kj_i7, kj_l7, kj_i8, kj_l8, kj_i9, kj_l9, kj_i10, kj_l10, kj_i11, kj_l11, kj_i12, kj_l12, kj_i13, kj_l13, kj_i14, kj_l14, kj_i15, kj_l15, kj_i16, kj_l16, kk_b6, kk_b7, kk_b8, kk_b9, kk_b10, kk_b11, kk_b12, kk_b13, kk_b14, kk_b15, kk_b16, kk_b20, kk_b40, nI_add, T_aS hl R hj, T_is hl R2 hj, T_rent hl R2 hj, tv_pS hl hs (show 5 < 7 by decide), tv_pS hl hs (show 6 < 7 by decide)]
  unfold rent_
  simp [sS_at, sS_ne, sG, sO, sN, gG_at, gG_ne, gS, gO, gN, oO_at, oO_ne, oS, oG, oN, nS, nG, nO, and_false, false_and, not_false_eq_true, not_true_eq_false, and_true, true_and]
theorem c_coins (hl : ov_L 16 l h) (R : R_ g w T n) (hb : b < 2) (hj : j < n) : F_X3_coinsForDust (tv_ l g w h) (l 0) (nI b) (nI j) = some (tLevyC_ T b j) := by
  have hn := R_n R
  unfold F_X3_coinsForDust
  simp only [tv_r0 hl, tv_r1 hl, tv_r2 hl, tv_is hl, Option.bind_some, kk_m2, kk_m3, kk_n1, kj_i0, kj_l0, kj_i1, kj_l1, kj_i2, kj_l2, kj_i3, kj_l3, kj_i4, kj_l4, kj_i5, kj_l5, kj_i6, kj_l6, kj_i7, kj_l7, kj_i8, kj_l8, kj_i9, kj_l9, kj_i10, kj_l10, kj_i11, kj_l11, kj_i12, kj_l12, kj_i13, kj_l13, kj_i14, kj_l14, kj_i15, kj_l15, kj_i16, kj_l16, kk_b6, kk_b7, kk_b8, kk_b9, kk_b10, kk_b11, kk_b12, kk_b13, kk_b14, kk_b15, kk_b16, kk_b20, kk_b40, nI_add, T_aS hl R hj, T_S hl R hj (show 3 < 7 by decide), d4, u1 (show b < 2 by omega), tv_aG hl (show 1 - b < 2 by omega), T_G hl R (show 1 - b < 2 by omega) (show 0 < 5 by decide)]
  rfl
theorem c_levyC (hl : ov_L 16 l h) (R : R_ g w T n) (I : I_ T n) (a x : Int32) : F_X3_levyToCome (tv_ l g w h) (l 0) a x = some (if (qrLevy_ T n a x).isSome then nI 0 else tLevyC_ T (cl_ a) (cl_ x)) := by
  have hn := R_n R
  unfold F_X3_levyToCome
  simp only [tv_r0 hl, tv_r1 hl, tv_r2 hl, tv_is hl, Option.bind_some, kk_m2, kk_m3, kk_n1, kj_i0, kj_l0, kj_i1, kj_l1, kj_i2, kj_l2, kj_i3, kj_l3, kj_i4, kj_l4, kj_i5, kj_l5, kj_i6, kj_l6, kj_i7, kj_l7, kj_i8, kj_l8, kj_i9, kj_l9, kj_i10, kj_l10, kj_i11, kj_l11, kj_i12, kj_l12, kj_i13, kj_l13, kj_i14, kj_l14, kj_i15, kj_l15, kj_i16, kj_l16, kk_b6, kk_b7, kk_b8, kk_b9, kk_b10, kk_b11, kk_b12, kk_b13, kk_b14, kk_b15, kk_b16, kk_b20, kk_b40, nI_add, T_nLevy hl R I]
  cases e : qrLevy_ T n a x with
  | none =>
    have hc : In_ (nI 0) (nI 1) a = true ∧ S_ n x = true := by
      by_cases hc : In_ (nI 0) (nI 1) a = true ∧ S_ n x = true
      · exact hc
      · unfold qrLevy_ at e
        obtain ⟨q, -, e2⟩ := qG_some (k := (if oT_ T (cl_ (sT_ T (cl_ x) 0)) ≠ a ∧ oT_ T (cl_ (sT_ T (cl_ x) 1)) ≠ a then some (nI 10, x) else if sT_ T (cl_ x) 3 = nI 0 then some (nI 11, sT_ T (cl_ x) 2) else none)) hc
        rw [e2] at e
        cases e
    obtain ⟨b, hb, rfl⟩ := In_of (by decide) hc.1
    obtain ⟨j, hj, rfl⟩ := S_of hn hc.2
    simp only [rL_, rf_kl, kj_l0, ne_eq, not_true_eq_false, if_false, c_coins hl R (show b < 2 by omega) hj, Option.bind_some, cl_nI (show j < 2 ^ 31 by omega), cl_nI (show b < 2 ^ 31 by omega), Option.isSome_none, Bool.false_eq_true]
  | some q =>
    have hq : q.1 ≠ nI 0 := qn_levy e
    simp [rL_, rf_ne q.2 hq]
theorem c_levy (hl : ov_L 16 l h) (R : R_ g w T n) (I : I_ T n) (hb : b < 2) (hj : j < n) (hq : qrLevy_ T n (nI b) (nI j) = none) : ∃ w', F_X3_levyDust (tv_ l g w h) (l 0) (nI b) (nI j) = some (tLevyC_ T b j, tv_ l g w' h) ∧ R_ g w' (tLevy_ T b j (tLevyC_ T b j)) n := by
  have hn := R_n R
  have hc := c_coins hl R hb hj
  generalize tLevyC_ T b j = c at hc ⊢
  have R1 := R_pG R (show 1 - b < 2 by omega) (show 0 < 5 by decide) (gT_ T (1 - b) 0 - c)
  have R2 := R_pG R1 hb (show 0 < 5 by decide) (gT_ T b 0 + c)
  have R3 := R_pN R2 nk7 (T 5 + c)
  have R4 := R_pS R3 hj (show 3 < 7 by decide) (nI 0)
  refine ⟨_, ?_, R4⟩
  have hs := R_si R hj
  unfold F_X3_levyDust
  have hbb : ¬ b = 1 - b := by omega
  simp only [tv_r0 hl, tv_r1 hl, tv_r2 hl, tv_is hl, Option.bind_some, kk_m2, kk_m3, kk_n1, kj_i0, kj_l0, kj_i1, kj_l1, kj_i2, kj_l2, kj_i3, kj_l3, kj_i4, kj_l4, kj_i5, kj_l5, kj_i6, kj_l6, kj_i7, kj_l7, kj_i8, kj_l8, kj_i9, kj_l9, kj_i10, kj_l10, kj_i11, kj_l11, kj_i12, kj_l12, kj_i13, kj_l13, kj_i14, kj_l14, kj_i15, kj_l15, kj_i16, kj_l16, kk_b6, kk_b7, kk_b8, kk_b9, kk_b10, kk_b11, kk_b12, kk_b13, kk_b14, kk_b15, kk_b16, kk_b20, kk_b40, nI_add, hc, u1 hb, tv_aG hl (show 1 - b < 2 by omega), tv_aG hl hb, T_G hl R (show 1 - b < 2 by omega) (show 0 < 5 by decide), T_G hl R1 hb (show 0 < 5 by decide), T_v hl R2, tv_aS hl (show j < 10 by omega), tv_pG hl (gi_b (show 1 - b < 2 by omega)) (show 0 < 5 by decide), tv_pG hl (gi_b hb) (show 0 < 5 by decide), tv_pN hl (show 3 ≤ 7 by decide) (show 7 < 10 by decide), tv_pS hl hs (show 3 < 7 by decide), gG_ne (T := T) (b := 1 - b) (b2 := b) (k := 0) (k2 := 0) (by decide) (by decide) (by omega), nG]
  simp [sS_at, sS_ne, sG, sO, sN, gG_at, gG_ne, gS, gO, gN, oO_at, oO_ne, oS, oG, oN, nS, nG, nO, and_false, false_and, not_false_eq_true, not_true_eq_false, and_true, true_and]
theorem c_step (hl : ov_L 16 l h) (R : R_ g w T n) (hb : b < 2) (hj : j < n) : ∃ w', F_X3_goOver_B94 (tv_ l g w h) (nI b) (l (b + 4)) (l (g j)) = some (cost_ (sT_ T j) (nI b), tv_ l g w' h) ∧ R_ g w' (tStep_ T b j (cost_ (sT_ T j) (nI b))) n := by
  have R1 := R_pS R hj (show 3 < 7 by decide) (sT_ T j 3 - sT_ T j 3 / nI 2)
  have R2 := R_pG R1 hb (show 2 < 5 by decide) (gT_ T b 2 + cost_ (sT_ T j) (nI b))
  have R3 := R_px R2 (m := 7) (by decide) (T 7 + cost_ (sT_ T j) (nI b))
  refine ⟨_, ?_, R3⟩
  have hs := R_si R hj
  have hc : cost_ (sT_ (tS_ T j 3 (sT_ T j 3 - sT_ T j 3 / nI 2)) j) (nI b) = cost_ (sT_ T j) (nI b) := by
    unfold cost_
    simp [sS_at, sS_ne, sG, sO, sN, gG_at, gG_ne, gS, gO, gN, oO_at, oO_ne, oS, oG, oN, nS, nG, nO, and_false, false_and, not_false_eq_true, not_true_eq_false, and_true, true_and]
  unfold F_X3_goOver_B94
  simp [tv_r0 hl, tv_r1 hl, tv_r2 hl, tv_is hl, Option.bind_some, kk_m2, kk_m3, kk_n1, kj_i0, kj_l0, kj_i1, kj_l1, kj_i2, kj_l2, kj_i3, kj_l3, kj_i4, kj_l4, kj_i5, kj_l5, kj_i6, kj_l6, kj_i7, kj_l7, kj_i8, kj_l8, kj_i9, kj_l9, kj_i10, kj_l10, kj_i11, kj_l11, kj_i12, kj_l12, kj_i13, kj_l13, kj_i14, kj_l14, kj_i15, kj_l15, kj_i16, kj_l16, kk_b6, kk_b7, kk_b8, kk_b9, kk_b10, kk_b11, kk_b12, kk_b13, kk_b14, kk_b15, kk_b16, kk_b20, kk_b40, nI_add, T_S hl R hj (show 3 < 7 by decide), d2, hb, tv_pS hl hs (show 3 < 7 by decide), T_is hl R1 hj, T_cost hl R1 hj, hc, T_G hl R1 hb (show 2 < 5 by decide), tv_pG hl (gi_b hb) (show 2 < 5 by decide), sS_at, sS_ne, sG, sO, sN, gG_at, gG_ne, gS, gO, gN, oO_at, oO_ne, oS, oG, oN, nS, nG, nO, and_false, false_and, not_false_eq_true, not_true_eq_false, and_true, true_and]
theorem c_climb (hl : ov_L 16 l h) (R : R_ g w T n) (I : I_ T n) (hb : b < 2) (hj : j < n) : ∃ w', F_X3_goOver (tv_ l g w h) (l 0) (nI b) (nI j) = some (cost_ (sT_ T j) (nI b), tv_ l g w' h) ∧ R_ g w' (tClimb_ T b j) n := by
  have hn := R_n R
  have hs := R_si R hj
  have ho := oth_nI I hj (gT_ T b 1)
  have ho2 := oc_lt I hj (gT_ T b 1)
  have hbb : ¬ b = 1 - b := by omega
  have hbc : ¬ 1 - b = b := by omega
  have hb1 : 1 - b < 2 := by omega
  unfold tClimb_
  rw [ho]
  generalize oc_ T (gT_ T b 1) j = c at ho ho2 ⊢
  have R1 := R_pG R hb (show 1 < 5 by decide) (nI c)
  unfold F_X3_goOver
  simp [tv_r0 hl, tv_r1 hl, tv_r2 hl, tv_is hl, Option.bind_some, kk_m2, kk_m3, kk_n1, kj_i0, kj_l0, kj_i1, kj_l1, kj_i2, kj_l2, kj_i3, kj_l3, kj_i4, kj_l4, kj_i5, kj_l5, kj_i6, kj_l6, kj_i7, kj_l7, kj_i8, kj_l8, kj_i9, kj_l9, kj_i10, kj_l10, kj_i11, kj_l11, kj_i12, kj_l12, kj_i13, kj_l13, kj_i14, kj_l14, kj_i15, kj_l15, kj_i16, kj_l16, kk_b6, kk_b7, kk_b8, kk_b9, kk_b10, kk_b11, kk_b12, kk_b13, kk_b14, kk_b15, kk_b16, kk_b20, kk_b40, nI_add, hb, tv_aG hl hb, T_aS hl R hj, T_G hl R hb (show 1 < 5 by decide), T_is hl R hj, T_oth hl R hj, ho, tv_pG hl (gi_b hb) (show 1 < 5 by decide), T_G hl R1 hb (show 1 < 5 by decide), T_G hl R1 hb (show 0 < 5 by decide), T_O hl R1 ho2, sS_at, sS_ne, sG, sO, sN, gG_at, gG_ne, gS, gO, gN, oO_at, oO_ne, oS, oG, oN, nS, nG, nO, and_false, false_and, not_false_eq_true, not_true_eq_false, and_true, true_and, u1 hb, ite_not]
  unfold tGo_
  rw [cl_nI (show c < 2 ^ 31 by omega), u1 hb]
  have hf : ∀ T2 : Nat → Int32, (∀ k, k < 7 → sT_ T2 j k = sT_ T j k) → cost_ (sT_ T2 j) (nI b) = cost_ (sT_ T j) (nI b) := by
    intro T2 h2
    unfold cost_
    rw [h2 2 (by decide), h2 5 (by decide)]
  have hA : ∀ k, k < 7 → sT_ (tG_ T b 1 (nI c)) j k = sT_ T j k := fun k hk => sG hb (by decide)
  by_cases h1 : oT_ T c = nI (1 - b)
  · by_cases h2 : gT_ T b 0 ≤ nI 0
    · have h3 : ¬ nI 0 < gT_ T b 0 := Int32.not_lt.mpr h2
      obtain ⟨w', e, R'⟩ := c_step hl R1 hb hj
      rw [hf _ hA] at e R'
      refine ⟨w', ?_, ?_⟩
      · simpa [h1, h2] using e
      · simpa [h1, h3] using R'
    · have h3 : nI 0 < gT_ T b 0 := Int32.not_le.mp h2
      have R2 := R_pG R1 hb (show 0 < 5 by decide) (gT_ T b 0 - nI 1)
      have R3 := R_pG R2 hb1 (show 0 < 5 by decide) (gT_ T (1 - b) 0 + nI 1)
      have R4 := R_pG R3 hb1 (show 4 < 5 by decide) (gT_ T (1 - b) 4 + nI 1)
      have R5 := R_px R4 (m := 6) (by decide) (T 6 + nI 1)
      obtain ⟨w', e, R'⟩ := c_step hl R5 hb hj
      have hB : ∀ k, k < 7 → sT_ (upd (tG_ (tG_ (tG_ (tG_ T b 1 (nI c)) b 0 (gT_ T b 0 - nI 1)) (1 - b) 0 (gT_ T (1 - b) 0 + nI 1)) (1 - b) 4 (gT_ T (1 - b) 4 + nI 1)) 6 (T 6 + nI 1)) j k = sT_ T j k := fun k hk => by rw [sN (by decide), sG hb1 (by decide), sG hb1 (by decide), sG hb (by decide), sG hb (by decide)]
      rw [hf _ hB] at e R'
      refine ⟨w', ?_, ?_⟩
      · rw [if_pos h1, if_neg h2]
        simp [tv_r0 hl, tv_r1 hl, tv_r2 hl, tv_is hl, Option.bind_some, kk_m2, kk_m3, kk_n1, kj_i0, kj_l0, kj_i1, kj_l1, kj_i2, kj_l2, kj_i3, kj_l3, kj_i4, kj_l4, kj_i5, kj_l5, kj_i6, kj_l6, kj_i7, kj_l7, kj_i8, kj_l8, kj_i9, kj_l9, kj_i10, kj_l10, kj_i11, kj_l11, kj_i12, kj_l12, kj_i13, kj_l13, kj_i14, kj_l14, kj_i15, kj_l15, kj_i16, kj_l16, kk_b6, kk_b7, kk_b8, kk_b9, kk_b10, kk_b11, kk_b12, kk_b13, kk_b14, kk_b15, kk_b16, kk_b20, kk_b40, nI_add, hb, hb1, tv_pG hl (gi_b hb) (show 0 < 5 by decide), tv_pG hl (gi_b hb1) (show 0 < 5 by decide), tv_pG hl (gi_b hb1) (show 4 < 5 by decide), tv_aG hl hb1, T_G hl R2 hb1 (show 0 < 5 by decide), T_G hl R3 hb1 (show 4 < 5 by decide), sS_at, sS_ne, sG, sO, sN, gG_at, gG_ne, gS, gO, gN, oO_at, oO_ne, oS, oG, oN, nS, nG, nO, and_false, false_and, not_false_eq_true, not_true_eq_false, and_true, true_and, hbb, hbc]
        exact e
      · rw [if_pos ⟨h1, h3⟩]
        unfold tToll_
        simpa [sS_at, sS_ne, sG, sO, sN, gG_at, gG_ne, gS, gO, gN, oO_at, oO_ne, oS, oG, oN, nS, nG, nO, and_false, false_and, not_false_eq_true, not_true_eq_false, and_true, true_and, hb, hb1, hbb, hbc] using R'
  · obtain ⟨w', e, R'⟩ := c_step hl R1 hb hj
    rw [hf _ hA] at e R'
    refine ⟨w', ?_, ?_⟩
    · simpa [h1] using e
    · simpa [h1] using R'
theorem c_free (hl : ov_L 16 l h) (R : R_ g w T n) (hi : i < 8) (x : Int32) : ∃ w', F_X3_freeLanding (tv_ l g w h) (l 0) x (nI i) = some (qL_ (tFree_ T i) x, tv_ l g w' h) ∧ R_ g w' (tFree_ T i) n := by
  have R1 := R_pO R hi (nI 2)
  refine ⟨_, ?_, R1⟩
  unfold F_X3_freeLanding
  simp only [tv_r0 hl, tv_r1 hl, tv_r2 hl, tv_is hl, Option.bind_some, kk_m2, kk_m3, kk_n1, kj_i0, kj_l0, kj_i1, kj_l1, kj_i2, kj_l2, kj_i3, kj_l3, kj_i4, kj_l4, kj_i5, kj_l5, kj_i6, kj_l6, kj_i7, kj_l7, kj_i8, kj_l8, kj_i9, kj_l9, kj_i10, kj_l10, kj_i11, kj_l11, kj_i12, kj_l12, kj_i13, kj_l13, kj_i14, kj_l14, kj_i15, kj_l15, kj_i16, kj_l16, kk_b6, kk_b7, kk_b8, kk_b9, kk_b10, kk_b11, kk_b12, kk_b13, kk_b14, kk_b15, kk_b16, kk_b20, kk_b40, nI_add, tv_sO hl hi, T_L hl R1]
  rfl
end OP

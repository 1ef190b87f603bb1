section W9
variable {A : Nat → Nat} {GG : Nat → Nat → Nat} {Z : Nat → Nat → Int32} {XL : Nat → Int64} {cap : Nat} {K : Nat → mm_Ce} {h h1 : mm_S}
theorem x_told1 (hW : WD_ A GG Z XL cap K h) {n : Nat} (R : R_ (GG 0) (wt_ Z 0) (Z 214) n) (I : I_ (Z 214) n) : ∃ y', F_X5_areStepsTold h (A 209) = some (nI 1, yv_ (ly_ A) y' h) := by
  obtain ⟨d, hd⟩ := ds_ex (Z 214) n
  obtain ⟨hly, ey⟩ := WD_y hW
  have hD := WD_Dy hW (show 0 < 11 by decide)
  obtain ⟨y0, e, -, hf⟩ := w_floyd (y := yw_ Z) hD R I
  rw [ey] at e
  have eis := yv_is (y := yw_ Z) hly
  rw [ey] at eis
  have key := lp_x (n := 8) (f := fun m i (q : mm_S) => F_X5_areStepsTold_L13 m (A 209) (nI i) q) (P := fun i q => ∃ y', q = yv_ (ly_ A) y' h ∧ ∀ s v, s < 8 → v < 8 → y' (s + 5) v = nI (d s v)) (E := fun _ => False) (fun m i q hi hp => by
    obtain ⟨y', rfl, ht⟩ := hp
    obtain ⟨f, f2, e2, hf2⟩ := w_dijk (y := y') hD R I hi op_any (hd i).1
    have W1 := WD_yp (y' := y') hW
    have W2 := WD_yp (y' := y2_ y' f f2) hW
    right
    have ht2 : ∀ s v, s < 8 → v < 8 → y2_ y' f f2 (s + 5) v = nI (d s v) := fun s v hs hv => by rw [y2_a (by omega) (by omega)]; exact ht s v hs hv
    refine ⟨yv_ (ly_ A) (y2_ y' f f2) h, ?_, _, rfl, ht2⟩
    rw [F_X5_areStepsTold_L13, kk_b8, if_neg (nI_ge hi (by decide)), X_way W1, Option.bind_some, X_now W1, Option.bind_some, show fx_is (yv_ (ly_ A) y' h) (A 176) 4 = some () from yv_is hly, Option.bind_some, kk_m2, show F_X4_goNearestFirst (yv_ (ly_ A) y' h) (A 176) (A 0) m1_ (nI i) = _ from e2, Option.bind_some]
    have key2 := lp_x (n := 8) (f := fun m j (q : Unit) => F_X5_areStepsTold_L34 m (A 209) (nI i) (nI j) (yv_ (ly_ A) (y2_ y' f f2) h)) (P := fun _ _ => True) (E := fun _ => False) (fun m j q hj _ => by
      right
      refine ⟨(), ?_, trivial⟩
      have r0 : fx_gR (yv_ (ly_ A) (y2_ y' f f2) h) (A 176) 4 0 = some (A (176 + 1)) := yv_r0 hly
      have r3 : fx_gR (yv_ (ly_ A) (y2_ y' f f2) h) (A 176) 4 3 = some (A (176 + 4)) := yv_r3 hly
      have ar : fx_aR (yv_ (ly_ A) (y2_ y' f f2) h) (A (176 + 4)) (nI i) = some (A (176 + (i + 5))) := yv_aR hly hi
      rw [F_X5_areStepsTold_L34, kk_b8, if_neg (nI_ge hj (by decide)), X_way W2, Option.bind_some, r0, Option.bind_some, y_len hW (.inl rfl) hj, y2_1, hf2 j hj, Option.bind_some, Option.bind_some, r3, Option.bind_some, ar, Option.bind_some, y_len hW (ri_t hi) hj, ht2 i j hi hj, Option.bind_some, if_pos rfl, nI_s]) 8 0 () 1000 (by omega) trivial (by omega)
    rcases key2 with ⟨_, _, q⟩ | ⟨_, e3, _⟩
    · exact q.elim
    · rw [show ki 0 = nI 0 from rfl, e3, show 1000 - 8 = 991 + 1 from rfl, F_X5_areStepsTold_L34, kk_b8, if_pos (Int32.le_refl _), Option.bind_some]
      dsimp only
      rw [nI_s]) 8 0 (yv_ (ly_ A) y0 h) 1000 (by omega) ⟨y0, rfl, fun s v hs hv => hf s (d s) hs (hd s).1 v hv⟩ (by omega)
  rcases key with ⟨_, _, q⟩ | ⟨q, e3, y', rfl, -⟩
  · exact q.elim
  · refine ⟨y', ?_⟩
    unfold F_X5_areStepsTold
    rw [X_way hW, Option.bind_some, X_now hW, Option.bind_some, show fx_is h (A 176) 4 = some () from eis, Option.bind_some, show F_X4_goOverMoreAndMore h (A 176) (A 0) = _ from e, Option.bind_some, show ki 0 = nI 0 from rfl, e3, show 1000 - 8 = 991 + 1 from rfl, F_X5_areStepsTold_L13, kk_b8, if_pos (Int32.le_refl _), Option.bind_some]
    rfl
theorem x_told2 (hW : WD_ A GG Z XL cap K h) {n : Nat} (R : R_ (GG 0) (wt_ Z 0) (Z 214) n) (I : I_ (Z 214) n) (y : Nat → Nat → Int32) {b : Nat} (hb : b < 2) : ∃ y', F_X5_areBreathsTold (yv_ (ly_ A) y h) (A 209) (nI b) = some (nI 1, yv_ (ly_ A) y' h) := by
  obtain ⟨d, hd⟩ := dw_ex (Z 214) n
  obtain ⟨st, hst, es, eo⟩ := I.2.2.1 b hb
  have hd2 := hd b
  rw [es, cl_nI (by omega)] at hd2
  obtain ⟨hly, -⟩ := WD_y hW
  have hD := WD_Dy hW (show 0 < 11 by decide)
  have W0 := WD_yp (y' := y) hW
  have R0 : R_ (GG 0) (wt_ (zu_ Z 176 13 y) 0) (Z 214) n := R_cg R (fun i hi => zu_out (by omega))
  obtain ⟨g1, g2, g3⟩ := g_at W0 (n := n) (by rw [show zu_ Z 176 13 y 214 = Z 214 from zu_out (by decide)]; exact R0) hb
  rw [show zu_ Z 176 13 y 214 = Z 214 from zu_out (by decide), es] at g3
  obtain ⟨f, f2, e, hf⟩ := w_dijk (y := y) (x := nI b) hD R I hst (.inr eo) hd2.1
  have W1 := WD_yp (y' := y2_ y f f2) hW
  obtain ⟨f3, e3, hf3⟩ := w_bf (y := y2_ y f f2) hD R I hb hst es (.inr eo) hd2.1
  have W2 := WD_yp (y' := yr_ (y2_ y f f2) 3 f3) hW
  refine ⟨yr_ (y2_ y f f2) 3 f3, ?_⟩
  unfold F_X5_areBreathsTold
  rw [X_way W0, Option.bind_some, X_now W0, Option.bind_some, Option.bind_some, g1, Option.bind_some, g2, Option.bind_some, g3, Option.bind_some, show fx_is (yv_ (ly_ A) y h) (A 176) 4 = some () from yv_is hly, Option.bind_some, show F_X4_goNearestFirst (yv_ (ly_ A) y h) (A 176) (A 0) (nI b) (nI st) = _ from e, Option.bind_some, X_way W1, Option.bind_some, X_now W1, Option.bind_some, show fx_is (yv_ (ly_ A) (y2_ y f f2) h) (A 176) 4 = some () from yv_is hly, Option.bind_some, show F_X4_goAgainAndAgain (yv_ (ly_ A) (y2_ y f f2) h) (A 176) (A 0) (nI b) = _ from e3, Option.bind_some]
  have key2 := lp_x (n := 8) (f := fun m j (q : Unit) => F_X5_areBreathsTold_L38 m (A 209) (nI j) (yv_ (ly_ A) (yr_ (y2_ y f f2) 3 f3) h)) (P := fun _ _ => True) (E := fun _ => False) (fun m j q hj _ => by
    right
    refine ⟨(), ?_, trivial⟩
    have r0 : fx_gR (yv_ (ly_ A) (yr_ (y2_ y f f2) 3 f3) h) (A 176) 4 0 = some (A (176 + 1)) := yv_r0 hly
    have r2 : fx_gR (yv_ (ly_ A) (yr_ (y2_ y f f2) 3 f3) h) (A 176) 4 2 = some (A (176 + 3)) := yv_r2 hly
    have v1 := y_len hW (y' := yr_ (y2_ y f f2) 3 f3) (a := 1) (.inl rfl) hj
    have v3 := y_len hW (y' := yr_ (y2_ y f f2) 3 f3) (a := 3) (.inr (.inl rfl)) hj
    rw [yr_ne (by decide), y2_1, hf j hj] at v1
    rw [yr_at, hf3 j hj] at v3
    rw [F_X5_areBreathsTold_L38, kk_b8, if_neg (nI_ge hj (by decide)), X_way W2, Option.bind_some, r0, Option.bind_some, v1, Option.bind_some, Option.bind_some, r2, Option.bind_some, v3, Option.bind_some, if_pos rfl, nI_s]) 8 0 () 1000 (by omega) trivial (by omega)
  rcases key2 with ⟨_, _, q⟩ | ⟨_, e4, _⟩
  · exact q.elim
  · rw [show ki 0 = nI 0 from rfl, e4, show 1000 - 8 = 991 + 1 from rfl, F_X5_areBreathsTold_L38, kk_b8, if_pos (Int32.le_refl _), Option.bind_some]
    rfl
theorem T_noN {l g : Nat → Nat} {w : Nat → Nat → Int32} {T : Nat → Int32} {n : Nat} (hl : ov_L 16 l h) (R : R_ g w T n) (I : I_ T n) : F_X3_isNoGiantOnNeutral (tv_ l g w h) (l 0) = some (nI 1) := by
  unfold F_X3_isNoGiantOnNeutral
  obtain ⟨a, ha, ea, oa⟩ := I.2.2.1 0 (by decide)
  obtain ⟨b, hb, eb, ob⟩ := I.2.2.1 1 (by decide)
  have a0 := tv_aG (g := g) (w := w) hl (show 0 < 2 by decide)
  have a1 := tv_aG (g := g) (w := w) hl (show 1 < 2 by decide)
  have g0 := T_G hl R (show 0 < 2 by decide) (show 1 < 5 by decide)
  have g1 := T_G hl R (show 1 < 2 by decide) (show 1 < 5 by decide)
  rw [ea] at g0
  rw [eb] at g1
  rw [tv_r1 hl, Option.bind_some, tv_r0 hl, Option.bind_some, kj_i0, a0, Option.bind_some, g0, Option.bind_some, T_O hl R ha, Option.bind_some, kj_i2, if_neg oa, Option.bind_some, Option.bind_some, kj_i1, a1, Option.bind_some, g1, Option.bind_some, T_O hl R hb, Option.bind_some, if_neg ob]
theorem o_isTold (hs : ST_ A K h) : PS_ A K (F_X5_isTold h (A 209)) (fun h1 => F_X6_isTold h1 (A 213)) := by
  obtain ⟨GG, Z, XL, cap, hW, s⟩ := hs
  obtain ⟨n, hn, hT, R, I⟩ := TR_n s.1
  obtain ⟨y1, e1⟩ := x_told1 hW R I
  obtain ⟨y2, e2⟩ := x_told2 hW R I y1 (show 0 < 2 by decide)
  obtain ⟨y3, e3⟩ := x_told2 hW R I y2 (show 1 < 2 by decide)
  have W1 := WD_yp (y' := y1) hW
  have W2 := WD_yp (y' := y2) hW
  have W3 := WD_yp (y' := y3) hW
  have R3 : R_ (GG 0) (wt_ (zu_ Z 176 13 y3) 0) (Z 214) n := R_cg R (fun i hi => zu_out (by omega))
  have hl3 := (WD_t W3 (show 0 < 11 by decide)).1
  have n1 := T_noN hl3 R3 I
  have n2 := T_coins hl3 R3
  have n3 := tv_is (g := GG 0) (w := wt_ (zu_ Z 176 13 y3) 0) hl3
  rw [(WD_t W3 (by decide)).2] at n1 n2 n3
  obtain ⟨c0, c1, c2, hc, f0, f1, f2⟩ := I.2.2.2.1
  rw [f0, f1, f2, nI_add, nI_add, hc] at n2
  have hl := (WD_m W3).1
  refine p_gen (v := nI 1) W3 (SM_ways s) ?_ ⟨m5_ (mw_ (zu_ Z 176 13 y3)) (nI 0), ?_, NB_m5⟩
  · unfold F_X5_isTold
    rw [WD_xis hW, Option.bind_some, e1, Option.bind_some]
    dsimp only
    rw [if_neg (show ¬ (nI 1 : Int32) = 0 by decide), WD_xis W1, Option.bind_some, show ki 0 = nI 0 from rfl, e2, Option.bind_some]
    dsimp only
    rw [if_neg (show ¬ (nI 1 : Int32) = 0 by decide), WD_xis W2, Option.bind_some, show ki 1 = nI 1 from rfl, e3, Option.bind_some]
    dsimp only
    rw [if_neg (show ¬ (nI 1 : Int32) = 0 by decide), X_now W3, Option.bind_some, show fx_is (yv_ (ly_ A) y3 h) (A 0) 3 = _ from n3, Option.bind_some, show F_X3_isNoGiantOnNeutral (yv_ (ly_ A) y3 h) (A 0) = _ from n1, Option.bind_some, if_neg (show ¬ (nI 1 : Int32) = 0 by decide), Option.bind_some, show fx_is (yv_ (ly_ A) y3 h) (A 0) 3 = _ from n3, Option.bind_some, show F_X3_coinsOfAll (yv_ (ly_ A) y3 h) (A 0) = _ from n2, Option.bind_some, if_neg (by decide)]
  · unfold F_X6_isTold
    rw [show ki 0 = nI 0 from rfl, show fx_pV (mv_ (lm_ A) (mw_ (zu_ Z 176 13 y3)) (yv_ (ly_ A) y3 h)) (A 213) 6 5 (.int (nI 0)) = _ from m5_e hl, Option.bind_some]
    rfl
/-! reasons -/
def q_reas (Z : Nat → Nat → Int32) (a b : Int32) : Int32 ⊕ Nat := if In_ (nI 0) (nI 1) a = true then (if a = nI 1 then (if Z 213 11 = nI 0 then .inr 1 else if b = nI 0 then .inl (Z 213 11) else .inl (Z 213 12)) else (if Z 213 9 = nI 0 then .inr 1 else if b = nI 0 then .inl (Z 213 9) else .inl (Z 213 10))) else .inr 0
theorem qb_reas {a x : Int32} : qb_ exA_.length (q_reas Z a x) := by
  unfold q_reas
  intro i
  repeat' split
  all_goals (intro e; cases e; try decide)
theorem o_reason (hs : ST_ A K h) (a b : Int32) : RS_ A K exA_ ((F_X5_reason h (A 209) a b).bind fun o => some (o, h)) (fun h1 => F_X6_reason h1 (A 213) a b) := by
  obtain ⟨GG, Z, XL, cap, hW, s⟩ := hs
  obtain ⟨k10, k11⟩ := s.2.2.2.2.1
  have hl := (WD_m hW).1
  refine q_gen (q := q_reas Z a b) hW s ?_ (fun K h hW => ⟨m5_ (mw_ Z) (qk_ (q_reas Z a b)), ?_, NB_m5, w5_5⟩) qb_reas
  · unfold F_X5_reason q_reas F_X5_numberOf F_X5_detailOf
    simp only [c_in, Option.bind_some, kj_i0, kj_i1, kj_l0, ne_eq, bI_n, Decidable.not_not, X_cau hW, X_why hW, k10, k11]
    by_cases ha : In_ (nI 0) (nI 1) a = true
    · obtain ⟨p, hp, rfl⟩ := In_of (by decide) ha
      rw [if_pos ha, if_pos ha]
      unfold rz_
      have hr : ∀ x y : Int32, x ≠ nI 0 → ¬ lg_cmp (rf_ x y) (kl 0) = nI 0 := fun x y hx => rf_ne y hx
      match p, hp with
      | 0, _ =>
        rw [if_neg (fun q => q rfl), if_neg (show ¬ nI 0 = nI 1 by decide)]
        by_cases h9 : Z 213 9 = nI 0
        · rw [if_pos h9, if_pos h9, if_neg (fun q => q rf_kl)]
          rfl
        · rw [if_neg h9, if_neg h9, if_pos (hr _ _ h9), rf_n, rf_d]
          by_cases hb : b = nI 0
          · rw [if_pos hb, if_pos hb]
            rfl
          · rw [if_neg hb, if_neg hb]
            rfl
      | 1, _ =>
        rw [if_pos (show ¬ nI 1 = nI 0 by decide), if_pos rfl]
        by_cases h9 : Z 213 11 = nI 0
        · rw [if_pos h9, if_pos h9, if_neg (fun q => q rf_kl)]
          rfl
        · rw [if_neg h9, if_neg h9, if_pos (hr _ _ h9), rf_n, rf_d]
          by_cases hb : b = nI 0
          · rw [if_pos hb, if_pos hb]
            rfl
          · rw [if_neg hb, if_neg hb]
            rfl
    · rw [if_neg ha, if_neg ha]
      rfl
  · have hl := (WD_m hW).1
    have e9 : m5_ (mw_ Z) (nI 0) 0 9 = Z 213 9 := w2_n2 (by decide)
    have e10 : m5_ (mw_ Z) (nI 0) 0 10 = Z 213 10 := w2_n2 (by decide)
    have e11 : m5_ (mw_ Z) (nI 0) 0 11 = Z 213 11 := w2_n2 (by decide)
    have e12 : m5_ (mw_ Z) (nI 0) 0 12 = Z 213 12 := w2_n2 (by decide)
    show F_X6_reason (mv_ (lm_ A) (mw_ Z) h) (lm_ A 0) a b = _
    unfold F_X6_reason F_X6_reason_B36 q_reas
    simp only [kj_i0, m5_e hl, Option.bind_some, m_in, kj_i1, kj_l0, ne_eq, bI_n, Decidable.not_not, mg_9 hl, mg_10 hl, mg_11 hl, mg_12 hl, e9, e10, e11, e12, kj_i2, m5_n hl, m5_5, mv_is hl]
    by_cases ha : In_ (nI 0) (nI 1) a = true
    · rw [if_pos ha, if_pos ha]
      by_cases h1 : a = nI 1
      · rw [if_neg (fun q => q h1), if_pos h1]
        by_cases h9 : Z 213 11 = nI 0
        · rw [if_neg (fun q => q h9), if_pos h9]
          rfl
        · rw [if_pos h9, if_neg h9]
          by_cases hb : b = nI 0
          · rw [if_neg (fun q => q hb), if_pos hb]
            rfl
          · rw [if_pos hb, if_neg hb, if_neg (fun q => q h1)]
            rfl
      · rw [if_pos h1, if_neg h1]
        by_cases h9 : Z 213 9 = nI 0
        · rw [if_neg (fun q => q h9), if_pos h9]
          rfl
        · rw [if_pos h9, if_neg h9]
          by_cases hb : b = nI 0
          · rw [if_neg (fun q => q hb), if_pos hb]
            rfl
          · rw [if_pos hb, if_neg hb, if_pos h1]
            rfl
    · rw [if_neg ha, if_neg ha]
      rfl
end W9

section W7
variable {A : Nat → Nat} {GG : Nat → Nat → Nat} {Z : Nat → Nat → Int32} {XL : Nat → Int64} {cap : Nat} {K : Nat → mm_Ce} {h h1 : mm_S}
theorem mw_yp {y' : Nat → Nat → Int32} : mw_ (zu_ Z 176 13 y') = mw_ Z := by
  funext j
  exact zu_out (by omega)
/-- after a search: the world, and what the question was answered -/
theorem q_ways {ex : List String} {q : Int32 ⊕ Nat} {c : Option ((Int32 ⊕ String) × mm_S)} {m : mm_S → Option (Int32 × mm_S)} (hW : WD_ A GG Z XL cap K h) (s : SM_ GG Z XL cap) (hc : (∃ y', c = some (qo_ ex q, yv_ (ly_ A) y' h)) ∨ c = some (qo_ ex q, h)) (hm : ∀ H, ov_L 11 (lm_ A) H → ∃ M', m (mv_ (lm_ A) (mw_ Z) H) = some (qv_ q, mv_ (lm_ A) M' H) ∧ NB_ (mw_ Z) M' ∧ M' 0 5 = qk_ q) (hq : qb_ ex.length q) : RS_ A K ex c m := by
  rcases hc with ⟨y', hc⟩ | hc
  · have W1 := WD_yp (y' := y') hW
    refine q_gen W1 (SM_ways s) hc (fun K2 H w => ?_) hq
    obtain ⟨M', e, nb, e5⟩ := hm H (WD_m w).1
    exact ⟨M', by rw [mw_yp]; exact e, by rw [mw_yp]; exact nb, e5⟩
  · exact q_gen hW s hc (fun K2 H w => hm H (WD_m w).1) hq
theorem y_len (hW : WD_ A GG Z XL cap K h) {y' : Nat → Nat → Int32} {a : Nat} (ha : ri_ a) {j : Nat} (hj : j < 8) : fx_aI (yv_ (ly_ A) y' h) (A (176 + a)) (nI j) = some (y' a j) := yv_aI (WD_y hW).1 ha hj
theorem op_any {T : Nat → Int32} {u : Nat} : op_ T m1_ u := .inl rfl
theorem x_steps (hW : WD_ A GG Z XL cap K h) {n : Nat} (R : R_ (GG 0) (wt_ Z 0) (Z 214) n) (I : I_ (Z 214) n) {d : Nat → Nat → Nat} (hd : ∀ s, gd_ (ET_ (Z 214) n m1_) s (d s) ∧ ∀ v, d s v ≤ 1000000) (a b : Int32) : (∃ y', F_X5_steps h (A 209) a b = some (qo_ exN_ (q_step (Z 214) n d a b), yv_ (ly_ A) y' h)) ∨ F_X5_steps h (A 209) a b = some (qo_ exN_ (q_step (Z 214) n d a b), h) := by
  unfold F_X5_steps q_step
  rw [c_isL, Option.bind_some]
  by_cases ha : In_ (nI 0) (nI 7) a = true
  · by_cases hb : In_ (nI 0) (nI 7) b = true
    · left
      obtain ⟨p, hp, rfl⟩ := In_of (by decide) ha
      obtain ⟨q, hq, rfl⟩ := In_of (by decide) hb
      obtain ⟨hly, ey⟩ := WD_y hW
      obtain ⟨f, f2, e, hf⟩ := w_dijk (y := yw_ Z) (WD_Dy hW (show 0 < 11 by decide)) R I (show p < 8 by omega) op_any (hd p).1
      rw [ey] at e
      have eis := yv_is (y := yw_ Z) hly
      rw [ey] at eis
      refine ⟨y2_ (yw_ Z) f f2, ?_⟩
      have W1 := WD_yp (y' := y2_ (yw_ Z) f f2) hW
      rw [if_neg (fun z => bI_0.mp z ha), c_isL, Option.bind_some, if_pos (fun z => bI_0.mp z hb), if_pos ha, if_pos hb, X_way hW, Option.bind_some, X_now hW, Option.bind_some, show fx_is h (A 176) 4 = some () from eis, Option.bind_some, kk_m2, show F_X4_goNearestFirst h (A 176) (A 0) m1_ (nI p) = _ from e, Option.bind_some, X_way W1, Option.bind_some, show fx_gR (yv_ (ly_ A) (y2_ (yw_ Z) f f2) h) (A 176) 4 0 = some (A (176 + 1)) from yv_r0 hly, Option.bind_some, y_len hW (.inl rfl) (show q < 8 by omega), y2_1, hf q (by omega), Option.bind_some, cl_nI (show p < 2 ^ 31 by omega), cl_nI (show q < 2 ^ 31 by omega)]
      by_cases hc : d p q < 1000000
      · rw [if_pos ((far_lt ((hd p).2 q)).mpr hc), if_pos hc]
        simp only [Option.bind_some, show fx_gR (yv_ (ly_ A) (y2_ (yw_ Z) f f2) h) (A 176) 4 0 = some (A (176 + 1)) from yv_r0 hly, y_len hW (.inl rfl) (show q < 8 by omega), y2_1, hf q (by omega)]
        rfl
      · rw [if_neg (fun z => hc ((far_lt ((hd p).2 q)).mp z)), if_neg hc]
        rfl
    · right
      rw [if_neg (fun z => bI_0.mp z ha), c_isL, Option.bind_some, if_neg (fun z => z (bI_0.mpr hb)), if_pos ha, if_neg hb]
      rfl
  · right
    rw [if_pos (bI_0.mpr ha), if_neg ha]
    rfl
theorem x_stepsA (hW : WD_ A GG Z XL cap K h) {n : Nat} (R : R_ (GG 0) (wt_ Z 0) (Z 214) n) (I : I_ (Z 214) n) {d : Nat → Nat → Nat} (hd : ∀ s, gd_ (ET_ (Z 214) n m1_) s (d s) ∧ ∀ v, d s v ≤ 1000000) (a b : Int32) : (∃ y', F_X5_stepsAgain h (A 209) a b = some (qo_ exN_ (q_step (Z 214) n d a b), yv_ (ly_ A) y' h)) ∨ F_X5_stepsAgain h (A 209) a b = some (qo_ exN_ (q_step (Z 214) n d a b), h) := by
  unfold F_X5_stepsAgain q_step
  rw [c_isL, Option.bind_some]
  by_cases ha : In_ (nI 0) (nI 7) a = true
  · by_cases hb : In_ (nI 0) (nI 7) b = true
    · left
      obtain ⟨p, hp, rfl⟩ := In_of (by decide) ha
      obtain ⟨q, hq, rfl⟩ := In_of (by decide) hb
      obtain ⟨hly, ey⟩ := WD_y hW
      obtain ⟨y', e, -, hf⟩ := w_floyd (y := yw_ Z) (WD_Dy hW (show 0 < 11 by decide)) R I
      rw [ey] at e
      have eis := yv_is (y := yw_ Z) hly
      rw [ey] at eis
      have hv := hf p (d p) (by omega) (hd p).1 q (by omega)
      refine ⟨y', ?_⟩
      have W1 := WD_yp (y' := y') hW
      have r3 : fx_gR (yv_ (ly_ A) y' h) (A 176) 4 3 = some (A (176 + 4)) := yv_r3 hly
      have ar : fx_aR (yv_ (ly_ A) y' h) (A (176 + 4)) (nI p) = some (A (176 + (p + 5))) := yv_aR hly (by omega)
      have av := y_len hW (y' := y') (ri_t (show p < 8 by omega)) (show q < 8 by omega)
      rw [hv] at av
      rw [if_neg (fun z => bI_0.mp z ha), c_isL, Option.bind_some, if_pos (fun z => bI_0.mp z hb), if_pos ha, if_pos hb, X_way hW, Option.bind_some, X_now hW, Option.bind_some, show fx_is h (A 176) 4 = some () from eis, Option.bind_some, show F_X4_goOverMoreAndMore h (A 176) (A 0) = _ from e, Option.bind_some, X_way W1, Option.bind_some, r3, Option.bind_some, ar, Option.bind_some, av, Option.bind_some, cl_nI (show p < 2 ^ 31 by omega), cl_nI (show q < 2 ^ 31 by omega)]
      by_cases hc : d p q < 1000000
      · rw [if_pos ((far_lt ((hd p).2 q)).mpr hc), if_pos hc]
        simp only [Option.bind_some, r3, ar, av]
        rfl
      · rw [if_neg (fun z => hc ((far_lt ((hd p).2 q)).mp z)), if_neg hc]
        rfl
    · right
      rw [if_neg (fun z => bI_0.mp z ha), c_isL, Option.bind_some, if_neg (fun z => z (bI_0.mpr hb)), if_pos ha, if_neg hb]
      rfl
  · right
    rw [if_pos (bI_0.mpr ha), if_neg ha]
    rfl
theorem g_at (hW : WD_ A GG Z XL cap K h) {n : Nat} (R : R_ (GG 0) (wt_ Z 0) (Z 214) n) {b : Nat} (hb : b < 2) : fx_gR h (A 0) 3 0 = some (A (16 * 0 + 1)) ∧ fx_aR h (A (16 * 0 + 1)) (nI b) = some (A (16 * 0 + (b + 4))) ∧ fx_gI h (A (16 * 0 + (b + 4))) 0 1 = some (gT_ (Z 214) b 1) := by
  obtain ⟨hl, e⟩ := WD_t hW (show 0 < 11 by decide)
  have e1 := tv_r0 (g := GG 0) (w := wt_ Z 0) hl
  have e2 := tv_aG (g := GG 0) (w := wt_ Z 0) hl hb
  have e3 := T_G hl R hb (show 1 < 5 by decide)
  rw [e] at e1 e2 e3
  exact ⟨e1, e2, e3⟩
theorem x_way (hW : WD_ A GG Z XL cap K h) {n : Nat} (R : R_ (GG 0) (wt_ Z 0) (Z 214) n) (I : I_ (Z 214) n) {d : Nat → Nat → Nat} (hd : ∀ b, gd_ (ET_ (Z 214) n (nI b)) (cl_ (gT_ (Z 214) b 1)) (d b) ∧ ∀ v, d b v ≤ 1000000) (a b : Int32) : (∃ y', F_X5_way h (A 209) a b = some (qo_ exN_ (q_way d a b), yv_ (ly_ A) y' h)) ∨ F_X5_way h (A 209) a b = some (qo_ exN_ (q_way d a b), h) := by
  unfold F_X5_way q_way
  rw [c_isG, Option.bind_some]
  by_cases ha : In_ (nI 0) (nI 1) a = true
  · by_cases hb : In_ (nI 0) (nI 7) b = true
    · left
      obtain ⟨p, hp, rfl⟩ := In_of (by decide) ha
      obtain ⟨q, hq, rfl⟩ := In_of (by decide) hb
      obtain ⟨st, hst, es, eo⟩ := I.2.2.1 p (by omega)
      have hd2 := hd p
      rw [es, cl_nI (by omega)] at hd2
      obtain ⟨hly, ey⟩ := WD_y hW
      obtain ⟨g1, g2, g3⟩ := g_at hW R (show p < 2 by omega)
      obtain ⟨f, f2, e, hf⟩ := w_dijk (y := yw_ Z) (x := nI p) (WD_Dy hW (show 0 < 11 by decide)) R I hst (.inr eo) hd2.1
      rw [ey] at e
      have eis := yv_is (y := yw_ Z) hly
      rw [ey] at eis
      refine ⟨y2_ (yw_ Z) f f2, ?_⟩
      have W1 := WD_yp (y' := y2_ (yw_ Z) f f2) hW
      rw [if_neg (fun z => bI_0.mp z ha), c_isL, Option.bind_some, if_pos (fun z => bI_0.mp z hb), if_pos ha, if_pos hb, X_way hW, Option.bind_some, X_now hW, Option.bind_some, Option.bind_some, g1, Option.bind_some, g2, Option.bind_some, g3, Option.bind_some, es, show fx_is h (A 176) 4 = some () from eis, Option.bind_some, show F_X4_goNearestFirst h (A 176) (A 0) (nI p) (nI st) = _ from e, Option.bind_some, X_way W1, Option.bind_some, show fx_gR (yv_ (ly_ A) (y2_ (yw_ Z) f f2) h) (A 176) 4 0 = some (A (176 + 1)) from yv_r0 hly, Option.bind_some, y_len hW (.inl rfl) (show q < 8 by omega), y2_1, hf q (by omega), Option.bind_some, cl_nI (show p < 2 ^ 31 by omega), cl_nI (show q < 2 ^ 31 by omega)]
      by_cases hc : d p q < 1000000
      · rw [if_pos ((far_lt (hd2.2 q)).mpr hc), if_pos hc]
        simp only [Option.bind_some, show fx_gR (yv_ (ly_ A) (y2_ (yw_ Z) f f2) h) (A 176) 4 0 = some (A (176 + 1)) from yv_r0 hly, y_len hW (.inl rfl) (show q < 8 by omega), y2_1, hf q (by omega)]
        rfl
      · rw [if_neg (fun z => hc ((far_lt (hd2.2 q)).mp z)), if_neg hc]
        rfl
    · right
      rw [if_neg (fun z => bI_0.mp z ha), c_isL, Option.bind_some, if_neg (fun z => z (bI_0.mpr hb)), if_pos ha, if_neg hb]
      rfl
  · right
    rw [if_pos (bI_0.mpr ha), if_neg ha]
    rfl
theorem x_wayA (hW : WD_ A GG Z XL cap K h) {n : Nat} (R : R_ (GG 0) (wt_ Z 0) (Z 214) n) (I : I_ (Z 214) n) {d : Nat → Nat → Nat} (hd : ∀ b, gd_ (ET_ (Z 214) n (nI b)) (cl_ (gT_ (Z 214) b 1)) (d b) ∧ ∀ v, d b v ≤ 1000000) (a b : Int32) : (∃ y', F_X5_wayAgain h (A 209) a b = some (qo_ exN_ (q_way d a b), yv_ (ly_ A) y' h)) ∨ F_X5_wayAgain h (A 209) a b = some (qo_ exN_ (q_way d a b), h) := by
  unfold F_X5_wayAgain q_way
  rw [c_isG, Option.bind_some]
  by_cases ha : In_ (nI 0) (nI 1) a = true
  · by_cases hb : In_ (nI 0) (nI 7) b = true
    · left
      obtain ⟨p, hp, rfl⟩ := In_of (by decide) ha
      obtain ⟨q, hq, rfl⟩ := In_of (by decide) hb
      obtain ⟨st, hst, es, eo⟩ := I.2.2.1 p (by omega)
      have hd2 := hd p
      rw [es, cl_nI (by omega)] at hd2
      obtain ⟨hly, ey⟩ := WD_y hW
      obtain ⟨f, e, hf⟩ := w_bf (y := yw_ Z) (WD_Dy hW (show 0 < 11 by decide)) R I (show p < 2 by omega) hst es (.inr eo) hd2.1
      rw [ey] at e
      have eis := yv_is (y := yw_ Z) hly
      rw [ey] at eis
      refine ⟨yr_ (yw_ Z) 3 f, ?_⟩
      have W1 := WD_yp (y' := yr_ (yw_ Z) 3 f) hW
      have r2 : fx_gR (yv_ (ly_ A) (yr_ (yw_ Z) 3 f) h) (A 176) 4 2 = some (A (176 + 3)) := yv_r2 hly
      have av := y_len hW (y' := yr_ (yw_ Z) 3 f) (a := 3) (.inr (.inl rfl)) (show q < 8 by omega)
      rw [yr_at, hf q (by omega)] at av
      rw [if_neg (fun z => bI_0.mp z ha), c_isL, Option.bind_some, if_pos (fun z => bI_0.mp z hb), if_pos ha, if_pos hb, X_way hW, Option.bind_some, X_now hW, Option.bind_some, show fx_is h (A 176) 4 = some () from eis, Option.bind_some, show F_X4_goAgainAndAgain h (A 176) (A 0) (nI p) = _ from e, Option.bind_some, X_way W1, Option.bind_some, r2, Option.bind_some, av, Option.bind_some, cl_nI (show p < 2 ^ 31 by omega), cl_nI (show q < 2 ^ 31 by omega)]
      by_cases hc : d p q < 1000000
      · rw [if_pos ((far_lt (hd2.2 q)).mpr hc), if_pos hc]
        simp only [Option.bind_some, r2, av]
        rfl
      · rw [if_neg (fun z => hc ((far_lt (hd2.2 q)).mp z)), if_neg hc]
        rfl
    · right
      rw [if_neg (fun z => bI_0.mp z ha), c_isL, Option.bind_some, if_neg (fun z => z (bI_0.mpr hb)), if_pos ha, if_neg hb]
      rfl
  · right
    rw [if_pos (bI_0.mpr ha), if_neg ha]
    rfl
theorem o_steps (hs : ST_ A K h) (a x : Int32) : RS_ A K exN_ (F_X5_steps h (A 209) a x) (fun h1 => F_X6_steps h1 (A 213) a x) := by
  obtain ⟨GG, Z, XL, cap, hW, s⟩ := hs
  obtain ⟨n, hn, hT, R, I⟩ := TR_n s.1
  obtain ⟨d, hd⟩ := ds_ex (Z 214) n
  refine q_ways hW s (x_steps hW R I hd a x) (fun H hl => ?_) qb_step
  obtain ⟨M', e, h2⟩ := mq_step (M := mw_ Z) hl hT hn I hd a x
  refine ⟨M', ?_, h2⟩
  unfold F_X6_steps
  rw [show fx_is (mv_ (lm_ A) (mw_ Z) H) (A 213) 6 = some () from mv_is hl, Option.bind_some, show F_X6_stepsTo (mv_ (lm_ A) (mw_ Z) H) (A 213) a x = _ from e, Option.bind_some]
theorem o_stepsAgain (hs : ST_ A K h) (a x : Int32) : RS_ A K exN_ (F_X5_stepsAgain h (A 209) a x) (fun h1 => F_X6_stepsAgain h1 (A 213) a x) := by
  obtain ⟨GG, Z, XL, cap, hW, s⟩ := hs
  obtain ⟨n, hn, hT, R, I⟩ := TR_n s.1
  obtain ⟨d, hd⟩ := ds_ex (Z 214) n
  refine q_ways hW s (x_stepsA hW R I hd a x) (fun H hl => ?_) qb_step
  obtain ⟨M', e, h2⟩ := mq_step (M := mw_ Z) hl hT hn I hd a x
  refine ⟨M', ?_, h2⟩
  unfold F_X6_stepsAgain
  rw [show fx_is (mv_ (lm_ A) (mw_ Z) H) (A 213) 6 = some () from mv_is hl, Option.bind_some, show F_X6_stepsTo (mv_ (lm_ A) (mw_ Z) H) (A 213) a x = _ from e, Option.bind_some]
theorem o_way (hs : ST_ A K h) (a x : Int32) : RS_ A K exN_ (F_X5_way h (A 209) a x) (fun h1 => F_X6_way h1 (A 213) a x) := by
  obtain ⟨GG, Z, XL, cap, hW, s⟩ := hs
  obtain ⟨n, hn, hT, R, I⟩ := TR_n s.1
  obtain ⟨d, hd⟩ := dw_ex (Z 214) n
  refine q_ways hW s (x_way hW R I hd a x) (fun H hl => ?_) qb_way
  obtain ⟨M', e, h2, h3, -⟩ := mq_way (M := mw_ Z) hl hT hn I hd a x
  refine ⟨M', ?_, h2, h3⟩
  unfold F_X6_way
  rw [show fx_is (mv_ (lm_ A) (mw_ Z) H) (A 213) 6 = some () from mv_is hl, Option.bind_some, show F_X6_wayTo (mv_ (lm_ A) (mw_ Z) H) (A 213) a x = _ from e, Option.bind_some]
theorem o_wayAgain (hs : ST_ A K h) (a x : Int32) : RS_ A K exN_ (F_X5_wayAgain h (A 209) a x) (fun h1 => F_X6_wayAgain h1 (A 213) a x) := by
  obtain ⟨GG, Z, XL, cap, hW, s⟩ := hs
  obtain ⟨n, hn, hT, R, I⟩ := TR_n s.1
  obtain ⟨d, hd⟩ := dw_ex (Z 214) n
  refine q_ways hW s (x_wayA hW R I hd a x) (fun H hl => ?_) qb_way
  obtain ⟨M', e, h2, h3, -⟩ := mq_way (M := mw_ Z) hl hT hn I hd a x
  refine ⟨M', ?_, h2, h3⟩
  unfold F_X6_wayAgain
  rw [show fx_is (mv_ (lm_ A) (mw_ Z) H) (A 213) 6 = some () from mv_is hl, Option.bind_some, show F_X6_wayTo (mv_ (lm_ A) (mw_ Z) H) (A 213) a x = _ from e, Option.bind_some]
end W7

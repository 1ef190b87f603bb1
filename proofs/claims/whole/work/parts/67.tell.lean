/-! giants, staircases, landings told; characters -/
def exO_ : List String := ["java/lang/IndexOutOfBoundsException"]
def MB_ (Z M : Nat → Nat → Int32) (s : List Nat) : Prop := sL_ (M 0) (M 10) 25 s ∧ (∀ a, a ≠ 0 → a ≠ 10 → M a = Z (213 + a)) ∧ (∀ k, k ≠ 5 → k ≠ 25 → M 0 k = Z 213 k) ∧ M 0 5 = nI 0
section MB
variable {l : Nat → Nat} {Z M : Nat → Nat → Int32} {h : mm_S} {s : List Nat}
theorem mb_of {M' : Nat → Nat → Int32} {s' : List Nat} (b : MB_ Z M s) (hs : sL_ (M' 0) (M' 10) 25 s') (k1 : ∀ a, a ≠ 0 → a ≠ 10 → M' a = M a) (k2 : ∀ k, k ≠ 25 → M' 0 k = M 0 k) : MB_ Z M' s' :=
  ⟨hs, fun a h0 h10 => (k1 a h0 h10).trans (b.2.1 a h0 h10), fun k h5 h25 => (k2 k h25).trans (b.2.2.1 k h5 h25), (k2 5 (by decide)).trans b.2.2.2⟩
theorem mb_chr (hl : ov_L 11 l h) (b : MB_ Z M s) (hn : s.length < 40) {v : Nat} : ∃ M', F_X6_writes (mv_ l M h) (l 0) (nI v) = some (mv_ l M' h) ∧ MB_ Z M' (s ++ [v]) := by
  obtain ⟨M', e, hs, k1, k2⟩ := ml_chr hl b.1 hn (v := v)
  exact ⟨M', e, mb_of b hs k1 k2⟩
theorem mb_int (hl : ov_L 11 l h) (b : MB_ Z M s) {x : Nat} (hx : x < 100) (hn : s.length + 2 ≤ 40) : ∃ M', F_X6_writesNumber (mv_ l M h) (l 0) (nI x) = some (mv_ l M' h) ∧ MB_ Z M' (s ++ dg_ x) := by
  obtain ⟨M', e, hs, k1, k2⟩ := ml_int hl b.1 hx (by have := dg_len hx; omega)
  exact ⟨M', e, mb_of b hs k1 k2⟩
theorem mb_int1 (hl : ov_L 11 l h) (b : MB_ Z M s) {x : Nat} (hx : x < 10) (hn : s.length + 2 ≤ 40) : ∃ M', F_X6_writesNumber (mv_ l M h) (l 0) (nI x) = some (mv_ l M' h) ∧ MB_ Z M' (s ++ [x + 48]) := by
  have r := mb_int hl b (show x < 100 by omega) hn
  rw [show dg_ x = [x + 48] from if_pos hx] at r
  exact r
theorem mb_0 : MB_ Z (w2_ (m5_ (fun j => Z (213 + j)) (nI 0)) 0 25 (nI 0)) [] := by
  refine ⟨⟨w2_at, fun k hk => absurd hk (by simp)⟩, fun a h0 h10 => ?_, fun k h5 h25 => ?_, ?_⟩
  · rw [w2_ne h0, m5_r h0]
  · rw [w2_n2 (by omega), m5_0 h5]
  · rw [w2_n2 (by omega)]
    exact w5_5
end MB
section TL
variable {A : Nat → Nat} {GG : Nat → Nat → Nat} {Z : Nat → Nat → Int32} {XL : Nat → Int64} {cap : Nat} {K : Nat → mm_Ce} {h h1 : mm_S} {S : Nat → Nat}
theorem ln_is0 (hW : WD_ A GG Z XL cap K h) : fx_is h (A 211) 7 = some () := by
  have e := tv2_is (z := fun j => Z (211 + j)) (cap := 16) (WD_lv hW).1
  rw [(WD_lv hW).2] at e
  exact e
theorem ln_n0 (hW : WD_ A GG Z XL cap K h) : F_J4_length_8abf5 h (A 211) = some (Z 211 3) := by
  have e := tb_len (z := fun j => Z (211 + j)) (cap := 16) (WD_lv hW).1
  rw [(WD_lv hW).2] at e
  exact e
theorem kk_b36' : kb 36 = nI 36 := kk_b36

theorem o_tellGiant (hs : ST_ A K h) (x : Int32) : RS_ A K exO_ (F_X5_tellGiant S h (A 209) x) (fun h1 => F_X6_tellGiant h1 (A 213) x) := by
  obtain ⟨GG, Z, XL, cap, hW, s⟩ := hs
  obtain ⟨n, hn, hT, R, I⟩ := TR_n s.1
  by_cases hg : In_ (nI 0) (nI 1) x = true
  · obtain ⟨b, hb, rfl⟩ := In_of (by decide) hg
    have hb2 : b < 2 := by omega
    obtain ⟨at_, hat, eat, -⟩ := I.2.2.1 b hb2
    obtain ⟨co, hco, eco⟩ : ∃ co, co < 100 ∧ gT_ (Z 214) b 0 = nI co := by
      obtain ⟨c0, c1, c2, hc, f0, f1, f2⟩ := I.2.2.2.1
      match b, hb2 with
      | 0, _ => exact ⟨c0, by omega, f0⟩
      | 1, _ => exact ⟨c1, by omega, f1⟩
    have l1 := dg_len hco
    obtain ⟨z0, e0, s0⟩ := ln_set (S := S) hW s
    obtain ⟨z1, e1, s1⟩ := ln_int1 (S := S) hW s0 (x := b) (by omega) (by simp only [List.length_append, List.length_singleton, List.length_nil]; omega)
    obtain ⟨z2, e2, s2⟩ := ln_chr (S := S) hW s1 (v := 64) (by decide) (by simp only [List.length_append, List.length_singleton, List.length_nil]; omega)
    obtain ⟨z3, e3, s3⟩ := ln_int1 (S := S) hW s2 (x := at_) (by omega) (by simp only [List.length_append, List.length_singleton, List.length_nil]; omega)
    obtain ⟨z4, e4, s4⟩ := ln_chr (S := S) hW s3 (v := 36) (by decide) (by simp only [List.length_append, List.length_singleton, List.length_nil]; omega)
    obtain ⟨z5, e5, s5⟩ := ln_int (S := S) hW s4 (x := co) hco (by simp only [List.length_append, List.length_singleton, List.length_nil]; omega)
    obtain ⟨z6, e6, s6⟩ := ln_chr (S := S) hW s5 (v := 33) (by decide) (by simp only [List.length_append, List.length_singleton, List.length_nil]; omega)
    have g1 := fun z => ln_G hW R hb2 (show 1 < 5 by decide) z
    have g0 := fun z => ln_G hW R hb2 (show 0 < 5 by decide) z
    rw [eat] at g1
    rw [eco] at g0
    have k1 : 12 + 5 * b + 1 < 110 := by omega
    have k0 : 12 + 5 * b + 0 < 110 := by omega
    have model : ∀ H, ov_L 11 (lm_ A) H → F_X6_tellGiant (mv_ (lm_ A) (mw_ Z) H) (lm_ A 0) (nI b) = F_X6_tellGiant_B13 (mv_ (lm_ A) (mw_ Z) H) (ki 0) (lm_ A 0) (lm_ A 0) (nI b) := fun H hl => by
      unfold F_X6_tellGiant
      rw [m_isG, Option.bind_some, if_neg (fun q => bI_0.mp q hg)]
    by_cases ht : Z 214 3 = nI b
    · refine ln_gen (sl := (((((([] ++ [b + 48]) ++ [64]) ++ [at_ + 48]) ++ [36]) ++ dg_ co) ++ [33])) (z' := z6) hW s ?_ s6 (by simp only [List.length_append, List.length_singleton, List.length_nil]; omega) (lr_app (lr_app (lr_app (lr_app (lr_app (lr_app lr_nil (lr_one (by omega))) (lr_one (by omega))) (lr_one (by omega))) (lr_one (by omega))) (lr_dg hco)) (lr_one (by omega))) ?_
      · unfold F_X5_tellGiant
        rw [c_isG, Option.bind_some, if_pos (fun q => bI_0.mp q hg)]
        simp only [X_now hW, N_r0 hW, N_aG hW hb2, X_lin hW, ln_is0 hW, e0, ln_lin hW, ln_is hW, e1, e2, kk_b64, g1, e3, kk_b36, e4, g0, e5, ln_now hW, ln_t hW R, ln_n hW, Option.bind_some, kk_b33, e6]
        rw [if_neg (fun q => q ht), s6.1]
      · intro H hl
        have b0 := mb_0 (Z := Z)
        obtain ⟨M1, f1, b1⟩ := mb_int1 hl b0 (x := b) (by omega) (by simp only [List.length_append, List.length_singleton, List.length_nil]; omega)
        obtain ⟨M2, f2, b2⟩ := mb_chr hl b1 (v := 64) (by simp only [List.length_append, List.length_singleton, List.length_nil]; omega)
        obtain ⟨M3, f3, b3⟩ := mb_int1 hl b2 (x := at_) (by omega) (by simp only [List.length_append, List.length_singleton, List.length_nil]; omega)
        obtain ⟨M4, f4, b4⟩ := mb_chr hl b3 (v := 36) (by simp only [List.length_append, List.length_singleton, List.length_nil]; omega)
        obtain ⟨M5, f5, b5⟩ := mb_int hl b4 (x := co) hco (by simp only [List.length_append, List.length_singleton, List.length_nil]; omega)
        obtain ⟨M6, f6, b6⟩ := mb_chr hl b5 (v := 33) (by simp only [List.length_append, List.length_singleton, List.length_nil]; omega)
        refine ⟨M6, ?_, b6.1, b6.2.1, b6.2.2.1, b6.2.2.2⟩
        show F_X6_tellGiant (mv_ (lm_ A) (mw_ Z) _) (lm_ A 0) (nI b) = _
        rw [model _ hl]
        unfold F_X6_tellGiant_B13
        rw [kj_i0, m5_e hl, Option.bind_some, m5_g hl, Option.bind_some, if_pos (show nI 0 ≤ 0 by decide), mp_25 hl, Option.bind_some, mv_is hl, Option.bind_some, f1, Option.bind_some, mv_is hl, Option.bind_some, kk_b64, f2, Option.bind_some, mv_is hl, Option.bind_some, kj_i1, m_gv hl k1, Option.bind_some, Option.bind_some, show gT_ (M2 1) b 1 = nI at_ from by rw [b2.2.1 1 (by decide) (by decide)]; exact eat, f3, Option.bind_some, mv_is hl, Option.bind_some, kk_b36, f4, Option.bind_some, mv_is hl, Option.bind_some, m_gv hl k0, Option.bind_some, Option.bind_some, show gT_ (M4 1) b 0 = nI co from by rw [b4.2.1 1 (by decide) (by decide)]; exact eco, f5, Option.bind_some, mr_0 hl, Option.bind_some, kj_i3, m_at hl (by decide), Option.bind_some, show M5 1 3 = nI b from by rw [b5.2.1 1 (by decide) (by decide)]; exact ht, if_neg (fun q => q rfl), mv_is hl, Option.bind_some, kk_b33, f6, Option.bind_some, mg_25 hl, Option.bind_some, b6.1.1]
    · refine ln_gen (sl := ((((([] ++ [b + 48]) ++ [64]) ++ [at_ + 48]) ++ [36]) ++ dg_ co)) (z' := z5) hW s ?_ s5 (by simp only [List.length_append, List.length_singleton, List.length_nil]; omega) (lr_app (lr_app (lr_app (lr_app (lr_app lr_nil (lr_one (by omega))) (lr_one (by omega))) (lr_one (by omega))) (lr_one (by omega))) (lr_dg hco)) ?_
      · unfold F_X5_tellGiant
        rw [c_isG, Option.bind_some, if_pos (fun q => bI_0.mp q hg)]
        simp only [X_now hW, N_r0 hW, N_aG hW hb2, X_lin hW, ln_is0 hW, e0, ln_lin hW, ln_is hW, e1, e2, kk_b64, g1, e3, kk_b36, e4, g0, e5, ln_now hW, ln_t hW R, ln_n hW, Option.bind_some, kk_b33, e6]
        rw [if_pos ht, s5.1]
      · intro H hl
        have b0 := mb_0 (Z := Z)
        obtain ⟨M1, f1, b1⟩ := mb_int1 hl b0 (x := b) (by omega) (by simp only [List.length_append, List.length_singleton, List.length_nil]; omega)
        obtain ⟨M2, f2, b2⟩ := mb_chr hl b1 (v := 64) (by simp only [List.length_append, List.length_singleton, List.length_nil]; omega)
        obtain ⟨M3, f3, b3⟩ := mb_int1 hl b2 (x := at_) (by omega) (by simp only [List.length_append, List.length_singleton, List.length_nil]; omega)
        obtain ⟨M4, f4, b4⟩ := mb_chr hl b3 (v := 36) (by simp only [List.length_append, List.length_singleton, List.length_nil]; omega)
        obtain ⟨M5, f5, b5⟩ := mb_int hl b4 (x := co) hco (by simp only [List.length_append, List.length_singleton, List.length_nil]; omega)
        refine ⟨M5, ?_, b5.1, b5.2.1, b5.2.2.1, b5.2.2.2⟩
        show F_X6_tellGiant (mv_ (lm_ A) (mw_ Z) _) (lm_ A 0) (nI b) = _
        rw [model _ hl]
        unfold F_X6_tellGiant_B13
        rw [kj_i0, m5_e hl, Option.bind_some, m5_g hl, Option.bind_some, if_pos (show nI 0 ≤ 0 by decide), mp_25 hl, Option.bind_some, mv_is hl, Option.bind_some, f1, Option.bind_some, mv_is hl, Option.bind_some, kk_b64, f2, Option.bind_some, mv_is hl, Option.bind_some, kj_i1, m_gv hl k1, Option.bind_some, Option.bind_some, show gT_ (M2 1) b 1 = nI at_ from by rw [b2.2.1 1 (by decide) (by decide)]; exact eat, f3, Option.bind_some, mv_is hl, Option.bind_some, kk_b36, f4, Option.bind_some, mv_is hl, Option.bind_some, m_gv hl k0, Option.bind_some, Option.bind_some, show gT_ (M4 1) b 0 = nI co from by rw [b4.2.1 1 (by decide) (by decide)]; exact eco, f5, Option.bind_some, mr_0 hl, Option.bind_some, kj_i3, m_at hl (by decide), Option.bind_some, if_pos (show M5 1 3 ≠ nI b from by rw [b5.2.1 1 (by decide) (by decide)]; exact ht), mg_25 hl, Option.bind_some, b5.1.1]
  · refine q_gen (q := .inr 0) hW s ?_ (fun K h hW => ⟨m5_ (mw_ Z) (nI 1), ?_, NB_m5, w5_5⟩) (fun i e => by cases e; decide)
    · unfold F_X5_tellGiant
      rw [c_isG, Option.bind_some, if_neg (fun q => q (bI_0.mpr hg))]
      rfl
    · have hl := (WD_m hW).1
      show F_X6_tellGiant (mv_ (lm_ A) (mw_ Z) h) (lm_ A 0) x = _
      unfold F_X6_tellGiant F_X6_tellGiant_B13
      rw [m_isG, Option.bind_some, if_pos (bI_0.mpr hg), kj_i1, m5_e hl, Option.bind_some, m5_g hl, Option.bind_some, if_neg (by decide)]
      rfl
theorem kk_b6' : kb 6 = nI 6 := kk_b6
theorem o_tellStair (hs : ST_ A K h) (x : Int32) : RS_ A K exO_ (F_X5_tellStair S h (A 209) x) (fun h1 => F_X6_tellStair h1 (A 213) x) := by
  obtain ⟨GG, Z, XL, cap, hW, s⟩ := hs
  obtain ⟨n, hn, hT, R, I⟩ := TR_n s.1
  by_cases hg : S_ n x = true
  · obtain ⟨j, hj, rfl⟩ := S_of hn hg
    obtain ⟨⟨lo, hi, hlh, hh, elo, ehi⟩, ⟨st, h1, h2, est⟩, ⟨du, hd, edu⟩, -, hle⟩ := I.2.2.2.2.1 j hj
    have hst : st < 100 := by omega
    have hdu : du < 100 := by omega
    have l1 := dg_len hst
    have l2 := dg_len hdu
    obtain ⟨z0, e0, s0⟩ := ln_set (S := S) hW s
    obtain ⟨z1, e1, s1⟩ := ln_int1 (S := S) hW s0 (x := j) (by omega) (by simp only [List.length_append, List.length_singleton, List.length_nil]; omega)
    obtain ⟨z2, e2, s2⟩ := ln_chr (S := S) hW s1 (v := 58) (by decide) (by simp only [List.length_append, List.length_singleton, List.length_nil]; omega)
    obtain ⟨z3, e3, s3⟩ := ln_int1 (S := S) hW s2 (x := lo) (by omega) (by simp only [List.length_append, List.length_singleton, List.length_nil]; omega)
    obtain ⟨z4, e4, s4⟩ := ln_int1 (S := S) hW s3 (x := hi) (by omega) (by simp only [List.length_append, List.length_singleton, List.length_nil]; omega)
    obtain ⟨z5, e5, s5⟩ := ln_chr (S := S) hW s4 (v := 94) (by decide) (by simp only [List.length_append, List.length_singleton, List.length_nil]; omega)
    obtain ⟨z6, e6, s6⟩ := ln_int (S := S) hW s5 (x := st) hst (by simp only [List.length_append, List.length_singleton, List.length_nil]; omega)
    obtain ⟨z7, e7, s7⟩ := ln_chr (S := S) hW s6 (v := 126) (by decide) (by simp only [List.length_append, List.length_singleton, List.length_nil]; omega)
    obtain ⟨z8, e8, s8⟩ := ln_int (S := S) hW s7 (x := du) hdu (by simp only [List.length_append, List.length_singleton, List.length_nil]; omega)
    have g0 := fun z => ln_S hW R hj (show 0 < 7 by decide) z
    have g1 := fun z => ln_S hW R hj (show 1 < 7 by decide) z
    have g2 := fun z => ln_S hW R hj (show 2 < 7 by decide) z
    have g3 := fun z => ln_S hW R hj (show 3 < 7 by decide) z
    rw [elo] at g0
    rw [ehi] at g1
    rw [est] at g2
    rw [edu] at g3
    have k0 : 34 + 7 * j + 0 < 110 := by omega
    have k1 : 34 + 7 * j + 1 < 110 := by omega
    have k2 : 34 + 7 * j + 2 < 110 := by omega
    have k3 : 34 + 7 * j + 3 < 110 := by omega
    have k5 : 34 + 7 * j + 5 < 110 := by omega
    have k6 : 34 + 7 * j + 6 < 110 := by omega
    have model : ∀ H, ov_L 11 (lm_ A) H → F_X6_tellStair (mv_ (lm_ A) (mw_ Z) H) (lm_ A 0) (nI j) = F_X6_tellStair_B14 (mv_ (lm_ A) (mw_ Z) H) (ki 0) (lm_ A 0) (lm_ A 0) (nI j) := fun H hl => by
      unfold F_X6_tellStair
      rw [mv_is hl, Option.bind_some, m_S hl hT hn, Option.bind_some, if_neg (fun q => bI_0.mp q hg)]
    rcases hle with ⟨el5, -⟩ | ⟨le, dy, hle, hy1, hy2, el5, el6⟩
    · have hno : ¬ In_ (nI 0) (nI 1) (sT_ (Z 214) j 5) = true := by rw [el5]; decide
      refine ln_gen (sl := (((((((([] ++ [j + 48]) ++ [58]) ++ [lo + 48]) ++ [hi + 48]) ++ [94]) ++ dg_ st) ++ [126]) ++ dg_ du)) (z' := z8) hW s ?_ s8 (by simp only [List.length_append, List.length_singleton, List.length_nil]; omega) (lr_app (lr_app (lr_app (lr_app (lr_app (lr_app (lr_app (lr_app lr_nil (lr_one (by omega))) (lr_one (by omega))) (lr_one (by omega))) (lr_one (by omega))) (lr_one (by omega))) (lr_dg hst)) (lr_one (by omega))) (lr_dg hdu)) ?_
      · unfold F_X5_tellStair
        rw [X_now hW, Option.bind_some, N_is hW, Option.bind_some, N_isS hW R, Option.bind_some, if_pos (fun q => bI_0.mp q hg), kj_i0]
        rw [← kj_i0]
        simp only [X_now hW, N_r2 hW, N_aS hW R hj, X_lin hW, ln_is0 hW, e0, ln_lin hW, ln_is hW, e1, e2, kk_b58, g0, e3, g1, e4, kk_b94, e5, g2, e6, kk_b126, e7, g3, e8, ln_ss2 hW R hj, ln_le hW R hj, ln_n hW, Option.bind_some]
        rw [if_pos (bI_0.mpr hno), s8.1]
      · intro H hl
        have b0 := mb_0 (Z := Z)
        obtain ⟨M1, f1, b1⟩ := mb_int1 hl b0 (x := j) (by omega) (by simp only [List.length_append, List.length_singleton, List.length_nil]; omega)
        obtain ⟨M2, f2, b2⟩ := mb_chr hl b1 (v := 58) (by simp only [List.length_append, List.length_singleton, List.length_nil]; omega)
        obtain ⟨M3, f3, b3⟩ := mb_int1 hl b2 (x := lo) (by omega) (by simp only [List.length_append, List.length_singleton, List.length_nil]; omega)
        obtain ⟨M4, f4, b4⟩ := mb_int1 hl b3 (x := hi) (by omega) (by simp only [List.length_append, List.length_singleton, List.length_nil]; omega)
        obtain ⟨M5, f5, b5⟩ := mb_chr hl b4 (v := 94) (by simp only [List.length_append, List.length_singleton, List.length_nil]; omega)
        obtain ⟨M6, f6, b6⟩ := mb_int hl b5 (x := st) hst (by simp only [List.length_append, List.length_singleton, List.length_nil]; omega)
        obtain ⟨M7, f7, b7⟩ := mb_chr hl b6 (v := 126) (by simp only [List.length_append, List.length_singleton, List.length_nil]; omega)
        obtain ⟨M8, f8, b8⟩ := mb_int hl b7 (x := du) hdu (by simp only [List.length_append, List.length_singleton, List.length_nil]; omega)
        refine ⟨M8, ?_, b8.1, b8.2.1, b8.2.2.1, b8.2.2.2⟩
        show F_X6_tellStair (mv_ (lm_ A) (mw_ Z) _) (lm_ A 0) (nI j) = _
        rw [model _ hl]
        unfold F_X6_tellStair_B14
        rw [kj_i0, m5_e hl, Option.bind_some, m5_g hl, Option.bind_some, if_pos (show nI 0 ≤ 0 by decide), mp_25 hl, Option.bind_some, mv_is hl, Option.bind_some, f1, Option.bind_some, mv_is hl, Option.bind_some, kk_b58, f2, Option.bind_some, mv_is hl, Option.bind_some, m_sv hl k0, Option.bind_some, Option.bind_some, show sT_ (M2 1) j 0 = nI lo from by rw [b2.2.1 1 (by decide) (by decide)]; exact elo, f3, Option.bind_some, mv_is hl, Option.bind_some, kj_i1, m_sv hl k1, Option.bind_some, Option.bind_some, show sT_ (M3 1) j 1 = nI hi from by rw [b3.2.1 1 (by decide) (by decide)]; exact ehi, f4, Option.bind_some, mv_is hl, Option.bind_some, kk_b94, f5, Option.bind_some, mv_is hl, Option.bind_some, kj_i2, m_sv hl k2, Option.bind_some, Option.bind_some, show sT_ (M5 1) j 2 = nI st from by rw [b5.2.1 1 (by decide) (by decide)]; exact est, f6, Option.bind_some, mv_is hl, Option.bind_some, kk_b126, f7, Option.bind_some, mv_is hl, Option.bind_some, kj_i3, m_sv hl k3, Option.bind_some, Option.bind_some, show sT_ (M7 1) j 3 = nI du from by rw [b7.2.1 1 (by decide) (by decide)]; exact edu, f8, Option.bind_some, mv_is hl, Option.bind_some, kj_i5, m_sv hl k5, Option.bind_some, show sT_ (M8 1) j 5 = m1_ from by rw [b8.2.1 1 (by decide) (by decide)]; exact el5, if_neg (by decide), mg_25 hl, Option.bind_some, b8.1.1]
    · have hyes : In_ (nI 0) (nI 1) (sT_ (Z 214) j 5) = true := by rw [el5, In_nI (by decide) (by omega)]; omega
      obtain ⟨z9, e9, s9⟩ := ln_chr (S := S) hW s8 (v := 61) (by decide) (by simp only [List.length_append, List.length_singleton, List.length_nil]; omega)
      obtain ⟨z10, e10, s10⟩ := ln_int1 (S := S) hW s9 (x := le) (by omega) (by simp only [List.length_append, List.length_singleton, List.length_nil]; omega)
      obtain ⟨z11, e11, s11⟩ := ln_chr (S := S) hW s10 (v := 47) (by decide) (by simp only [List.length_append, List.length_singleton, List.length_nil]; omega)
      obtain ⟨z12, e12, s12⟩ := ln_int1 (S := S) hW s11 (x := dy) (by omega) (by simp only [List.length_append, List.length_singleton, List.length_nil]; omega)
      have g5 := fun z => ln_S hW R hj (show 5 < 7 by decide) z
      have g6 := fun z => ln_S hW R hj (show 6 < 7 by decide) z
      rw [el5] at g5
      rw [el6] at g6
      refine ln_gen (sl := (((((((((((([] ++ [j + 48]) ++ [58]) ++ [lo + 48]) ++ [hi + 48]) ++ [94]) ++ dg_ st) ++ [126]) ++ dg_ du) ++ [61]) ++ [le + 48]) ++ [47]) ++ [dy + 48])) (z' := z12) hW s ?_ s12 (by simp only [List.length_append, List.length_singleton, List.length_nil]; omega) (lr_app (lr_app (lr_app (lr_app (lr_app (lr_app (lr_app (lr_app (lr_app (lr_app (lr_app (lr_app lr_nil (lr_one (by omega))) (lr_one (by omega))) (lr_one (by omega))) (lr_one (by omega))) (lr_one (by omega))) (lr_dg hst)) (lr_one (by omega))) (lr_dg hdu)) (lr_one (by omega))) (lr_one (by omega))) (lr_one (by omega))) (lr_one (by omega))) ?_
      · unfold F_X5_tellStair
        rw [X_now hW, Option.bind_some, N_is hW, Option.bind_some, N_isS hW R, Option.bind_some, if_pos (fun q => bI_0.mp q hg)]
        simp only [X_now hW, N_r2 hW, N_aS hW R hj, X_lin hW, ln_is0 hW, e0, ln_lin hW, ln_is hW, e1, e2, kk_b58, g0, e3, g1, e4, kk_b94, e5, g2, e6, kk_b126, e7, g3, e8, ln_ss2 hW R hj, ln_le hW R hj, ln_n hW, Option.bind_some]
        rw [if_neg (fun q => bI_0.mp q hyes)]
        simp only [ln_lin hW, ln_is hW, kk_b61, e9, g5, e10, kk_b47, e11, g6, e12, ln_n hW, Option.bind_some]
        rw [s12.1]
      · intro H hl
        have b0 := mb_0 (Z := Z)
        obtain ⟨M1, f1, b1⟩ := mb_int1 hl b0 (x := j) (by omega) (by simp only [List.length_append, List.length_singleton, List.length_nil]; omega)
        obtain ⟨M2, f2, b2⟩ := mb_chr hl b1 (v := 58) (by simp only [List.length_append, List.length_singleton, List.length_nil]; omega)
        obtain ⟨M3, f3, b3⟩ := mb_int1 hl b2 (x := lo) (by omega) (by simp only [List.length_append, List.length_singleton, List.length_nil]; omega)
        obtain ⟨M4, f4, b4⟩ := mb_int1 hl b3 (x := hi) (by omega) (by simp only [List.length_append, List.length_singleton, List.length_nil]; omega)
        obtain ⟨M5, f5, b5⟩ := mb_chr hl b4 (v := 94) (by simp only [List.length_append, List.length_singleton, List.length_nil]; omega)
        obtain ⟨M6, f6, b6⟩ := mb_int hl b5 (x := st) hst (by simp only [List.length_append, List.length_singleton, List.length_nil]; omega)
        obtain ⟨M7, f7, b7⟩ := mb_chr hl b6 (v := 126) (by simp only [List.length_append, List.length_singleton, List.length_nil]; omega)
        obtain ⟨M8, f8, b8⟩ := mb_int hl b7 (x := du) hdu (by simp only [List.length_append, List.length_singleton, List.length_nil]; omega)
        obtain ⟨M9, f9, b9⟩ := mb_chr hl b8 (v := 61) (by simp only [List.length_append, List.length_singleton, List.length_nil]; omega)
        obtain ⟨M10, f10, b10⟩ := mb_int1 hl b9 (x := le) (by omega) (by simp only [List.length_append, List.length_singleton, List.length_nil]; omega)
        obtain ⟨M11, f11, b11⟩ := mb_chr hl b10 (v := 47) (by simp only [List.length_append, List.length_singleton, List.length_nil]; omega)
        obtain ⟨M12, f12, b12⟩ := mb_int1 hl b11 (x := dy) (by omega) (by simp only [List.length_append, List.length_singleton, List.length_nil]; omega)
        refine ⟨M12, ?_, b12.1, b12.2.1, b12.2.2.1, b12.2.2.2⟩
        show F_X6_tellStair (mv_ (lm_ A) (mw_ Z) _) (lm_ A 0) (nI j) = _
        rw [model _ hl]
        unfold F_X6_tellStair_B14
        rw [kj_i0, m5_e hl, Option.bind_some, m5_g hl, Option.bind_some, if_pos (show nI 0 ≤ 0 by decide), mp_25 hl, Option.bind_some, mv_is hl, Option.bind_some, f1, Option.bind_some, mv_is hl, Option.bind_some, kk_b58, f2, Option.bind_some, mv_is hl, Option.bind_some, m_sv hl k0, Option.bind_some, Option.bind_some, show sT_ (M2 1) j 0 = nI lo from by rw [b2.2.1 1 (by decide) (by decide)]; exact elo, f3, Option.bind_some, mv_is hl, Option.bind_some, kj_i1, m_sv hl k1, Option.bind_some, Option.bind_some, show sT_ (M3 1) j 1 = nI hi from by rw [b3.2.1 1 (by decide) (by decide)]; exact ehi, f4, Option.bind_some, mv_is hl, Option.bind_some, kk_b94, f5, Option.bind_some, mv_is hl, Option.bind_some, kj_i2, m_sv hl k2, Option.bind_some, Option.bind_some, show sT_ (M5 1) j 2 = nI st from by rw [b5.2.1 1 (by decide) (by decide)]; exact est, f6, Option.bind_some, mv_is hl, Option.bind_some, kk_b126, f7, Option.bind_some, mv_is hl, Option.bind_some, kj_i3, m_sv hl k3, Option.bind_some, Option.bind_some, show sT_ (M7 1) j 3 = nI du from by rw [b7.2.1 1 (by decide) (by decide)]; exact edu, f8, Option.bind_some, mv_is hl, Option.bind_some, kj_i5, m_sv hl k5, Option.bind_some, show sT_ (M8 1) j 5 = nI le from by rw [b8.2.1 1 (by decide) (by decide)]; exact el5, if_pos (nI_pos' (by omega)), Option.bind_some, kk_b61, f9, Option.bind_some, mv_is hl, Option.bind_some, m_sv hl k5, Option.bind_some, Option.bind_some, show sT_ (M9 1) j 5 = nI le from by rw [b9.2.1 1 (by decide) (by decide)]; exact el5, f10, Option.bind_some, mv_is hl, Option.bind_some, kk_b47, f11, Option.bind_some, mv_is hl, Option.bind_some, kk_b6, m_sv hl k6, Option.bind_some, Option.bind_some, show sT_ (M11 1) j 6 = nI dy from by rw [b11.2.1 1 (by decide) (by decide)]; exact el6, f12, Option.bind_some, mg_25 hl, Option.bind_some, b12.1.1]
  · refine q_gen (q := .inr 0) hW s ?_ (fun K h hW => ⟨m5_ (mw_ Z) (nI 1), ?_, NB_m5, w5_5⟩) (fun i e => by cases e; decide)
    · unfold F_X5_tellStair
      rw [X_now hW, Option.bind_some, N_is hW, Option.bind_some, N_isS hW R, Option.bind_some, if_neg (fun q => q (bI_0.mpr hg))]
      rfl
    · have hl := (WD_m hW).1
      show F_X6_tellStair (mv_ (lm_ A) (mw_ Z) h) (lm_ A 0) x = _
      unfold F_X6_tellStair F_X6_tellStair_B14
      rw [mv_is hl, Option.bind_some, m_S hl hT hn, Option.bind_some, if_pos (bI_0.mpr hg), kj_i1, m5_e hl, Option.bind_some, m5_g hl, Option.bind_some, if_neg (by decide)]
      rfl
/-! landings -/
def tl_ (o : Nat → Nat) : Nat → List Nat
  | 0 => []
  | i + 1 => tl_ o i ++ [if o i = 2 then 46 else o i + 48]
theorem tl_len {o : Nat → Nat} : ∀ i, (tl_ o i).length = i
  | 0 => rfl
  | i + 1 => by
    show (tl_ o i ++ _).length = _
    rw [List.length_append, tl_len i]
    rfl
theorem tl_lr {o : Nat → Nat} : ∀ i, i ≤ 8 → (∀ k, k < 8 → o k < 3) → lr_ (tl_ o i)
  | 0, _, _ => lr_nil
  | i + 1, h, ho => lr_app (tl_lr i (by omega) ho) (lr_one (by have := ho i (by omega); split <;> omega))
theorem o_tellLandings (hs : ST_ A K h) : PS_ A K (F_X5_tellLandings S h (A 209)) (fun h1 => F_X6_tellLandings h1 (A 213)) := by
  obtain ⟨GG, Z, XL, cap, hW, s⟩ := hs
  obtain ⟨n, hn, hT, R, I⟩ := TR_n s.1
  obtain ⟨o, ho⟩ : ∃ o : Nat → Nat, ∀ k, k < 8 → o k < 3 ∧ oT_ (Z 214) k = nI (o k) := by
    refine ⟨fun k => (oT_ (Z 214) k).toNatClampNeg, fun k hk => ?_⟩
    obtain ⟨v, hv, e⟩ := I.2.1 k hk
    show (oT_ (Z 214) k).toNatClampNeg < 3 ∧ oT_ (Z 214) k = nI (oT_ (Z 214) k).toNatClampNeg
    rw [e, nI_clamp (by omega)]
    exact ⟨hv, rfl⟩
  obtain ⟨z0, e0, s0⟩ := ln_set (S := S) hW s
  obtain ⟨q, eq, z8, rfl, s8⟩ := lp_ (n := 8) (f := fun m i (q : mm_S) => F_X5_tellLandings_L10 S m (A 209) (nI i) q) (P := fun i q => ∃ z', q = tv2_ (lq_ A) z' 16 h ∧ sL_ (z' 0) (z' 1) 3 (tl_ o i)) (fun m i q hi hp => by
    obtain ⟨z, rfl, hz⟩ := hp
    obtain ⟨o3, eo⟩ := ho i hi
    have hO := ln_O hW R hi z
    rw [eo] at hO
    by_cases h2 : o i = 2
    · obtain ⟨z', e', s'⟩ := ln_chr (S := S) hW hz (v := 46) (by decide) (by rw [tl_len]; omega)
      refine ⟨_, ?_, z', rfl, ?_⟩
      · rw [F_X5_tellLandings_L10, kk_b8, if_neg (nI_ge hi (by decide)), ln_now hW, Option.bind_some, ln_r1 hW, Option.bind_some, hO, Option.bind_some, h2, kj_i2, if_neg (fun q => q rfl), ln_lin hW, Option.bind_some, ln_is hW, Option.bind_some, kk_b46, e', Option.bind_some, nI_s]
      · show sL_ _ _ 3 (tl_ o i ++ [if o i = 2 then 46 else o i + 48])
        rw [if_pos h2]
        exact s'
    · obtain ⟨z', e', s'⟩ := ln_int1 (S := S) hW hz (x := o i) (by omega) (by rw [tl_len]; omega)
      refine ⟨_, ?_, z', rfl, ?_⟩
      · rw [F_X5_tellLandings_L10, kk_b8, if_neg (nI_ge hi (by decide)), ln_now hW, Option.bind_some, ln_r1 hW, Option.bind_some, hO, Option.bind_some, kj_i2, if_pos (fun q => h2 ((nI_eq (by omega) (by decide)).mp q))]
        simp only [ln_lin hW, ln_now hW, ln_r1 hW, hO, ln_is hW, e', Option.bind_some, nI_s]
      · show sL_ _ _ 3 (tl_ o i ++ [if o i = 2 then 46 else o i + 48])
        rw [if_neg h2]
        exact s') 8 0 (tv2_ (lq_ A) z0 16 h) 1000 (by omega) ⟨z0, rfl, s0⟩ (by omega)
  have hcl : F_X5_tellLandings S h (A 209) = some (nI (tl_ o 8).length, tv2_ (lq_ A) z8 16 h) := by
    unfold F_X5_tellLandings
    rw [X_lin hW, Option.bind_some, ln_is0 hW, Option.bind_some, e0, Option.bind_some, show ki 0 = nI 0 from rfl, eq, show 1000 - 8 = 991 + 1 from rfl, F_X5_tellLandings_L10, kk_b8, if_pos (Int32.le_refl _), Option.bind_some, ln_lin hW, Option.bind_some, ln_is hW, Option.bind_some, ln_n hW, Option.bind_some, s8.1]
  have W1 := WD_lp (z := z8) hW
  have hl := (WD_m W1).1
  have b0 := mb_0 (Z := Z)
  obtain ⟨q2, eq2, M8, rfl, b8⟩ := lp_ (n := 8) (f := fun m i (q : mm_S) => F_X6_tellLandings_L12 m (lm_ A 0) (nI i) q) (P := fun i q => ∃ M, q = mv_ (lm_ A) M (tv2_ (lq_ A) z8 16 h) ∧ MB_ Z M (tl_ o i)) (fun m i q hi hp => by
    obtain ⟨M, rfl, hz⟩ := hp
    obtain ⟨o3, eo⟩ := ho i hi
    have hO := m_ow (M := M) (j := i) hl hi
    rw [hz.2.1 1 (by decide) (by decide), show oT_ (Z (213 + 1)) i = nI (o i) from eo] at hO
    by_cases h2 : o i = 2
    · obtain ⟨M', f', b'⟩ := mb_chr hl hz (v := 46) (by rw [tl_len]; omega)
      refine ⟨_, ?_, M', rfl, ?_⟩
      · rw [F_X6_tellLandings_L12, kk_b8, if_neg (nI_ge hi (by decide)), mv_is hl, Option.bind_some, hO, Option.bind_some, h2, kj_i2, if_neg (fun q => q rfl), Option.bind_some, kk_b46, f', Option.bind_some, nI_s]
      · show MB_ Z _ (tl_ o i ++ [if o i = 2 then 46 else o i + 48])
        rw [if_pos h2]
        exact b'
    · obtain ⟨M', f', b'⟩ := mb_chr hl hz (v := o i + 48) (by rw [tl_len]; omega)
      refine ⟨_, ?_, M', rfl, ?_⟩
      · rw [F_X6_tellLandings_L12, kk_b8, if_neg (nI_ge hi (by decide)), mv_is hl, Option.bind_some, hO, Option.bind_some, kj_i2, if_pos (fun q => h2 ((nI_eq (by omega) (by decide)).mp q)), Option.bind_some, Option.bind_some, Option.bind_some, kk_b48, nI_add, Nat.add_comm 48, f', Option.bind_some, nI_s]
      · show MB_ Z _ (tl_ o i ++ [if o i = 2 then 46 else o i + 48])
        rw [if_neg h2]
        exact b') 8 0 _ 1000 (by omega) ⟨_, rfl, b0⟩ (by omega)
  have emd : F_X6_tellLandings (mv_ (lm_ A) (mw_ Z) (tv2_ (lq_ A) z8 16 h)) (lm_ A 0) = some (nI (tl_ o 8).length, mv_ (lm_ A) M8 (tv2_ (lq_ A) z8 16 h)) := by
    unfold F_X6_tellLandings
    rw [kj_i0, m5_e hl, Option.bind_some, mp_25 hl, Option.bind_some]
    rw [show F_X6_tellLandings_L12 1000 (lm_ A 0) (nI 0) (mv_ (lm_ A) (w2_ (m5_ (mw_ Z) (nI 0)) 0 25 (nI 0)) (tv2_ (lq_ A) z8 16 h)) = _ from eq2, show 1000 - 8 = 991 + 1 from rfl, F_X6_tellLandings_L12, kk_b8, if_pos (Int32.le_refl _), Option.bind_some, mg_25 hl, Option.bind_some, b8.1.1]
  have em := (WD_m W1).2
  have emw : mw_ (zu_ Z 211 2 z8) = mw_ Z := by
    funext j
    show zu_ Z 211 2 z8 (213 + j) = Z (213 + j)
    exact zu_out (by omega)
  rw [emw] at em
  rw [em] at emd
  exact ⟨_, _, _, hcl, emd, _, _, _, _, WD_mp (M' := M8) W1, ln_SM s s8 b8.1 (by rw [tl_len]; decide) (tl_lr 8 (by decide) (fun k hk => (ho k hk).1)) b8.2.1 b8.2.2.1⟩
/-! characters -/
def q_chr (Z : Nat → Nat → Int32) (q : Nat) (x : Int32) : Int32 ⊕ Nat := if S_ q x = true then .inl (Z 223 (cl_ x)) else .inr 0
theorem tn_ch : ∀ v : Nat, v < 127 → (fx_nar .char (nI v) = some (nI v) ∧ ((nI v).toUInt32 % 65536).toInt32 = nI v) := by decide +kernel
theorem o_character (hs : ST_ A K h) (x : Int32) : RS_ A K exO_ ((F_X5_character S h (A 209) x).bind fun o => some (o, h)) (fun h1 => F_X6_character h1 (A 213) x) := by
  obtain ⟨GG, Z, XL, cap, hW, s⟩ := hs
  obtain ⟨q, hq, eq, em25, htx⟩ := s.2.2.2.2.2.2.2
  have esz : S_ q x = true ↔ ¬ x < 0 ∧ x < nI q := by
    unfold S_
    constructor
    · intro hx
      obtain ⟨j, hj, rfl⟩ := S_of2 (show q < 2 ^ 31 by omega) hx
      exact ⟨nI_pos (by omega), nI_lt hj (by omega)⟩
    · intro hx
      obtain ⟨j, hj, rfl⟩ := nI_of hx.1
      rw [nI_ltI hj (by omega)] at hx
      exact S_nI2 (by omega) hj hx.2
  by_cases hg : S_ q x = true
  · obtain ⟨j, hj, rfl⟩ := S_of2 (by omega) hg
    obtain ⟨ez, v, hv1, hv2, ev⟩ := htx j hj
    have ec : F_X5_character S h (A 209) (nI j) = some (.inl (nI v)) := by
      have e := tb_at (S := S) (z := fun j => Z (211 + j)) (cap := 16) (n := q) (j := j) (WD_lv hW).1 (by decide) eq hq hj (show v < 127 by omega) (ez.trans ev)
      rw [(WD_lv hW).2] at e
      unfold F_X5_character
      rw [if_neg (nI_pos (by omega)), X_lin hW, Option.bind_some, ln_is0 hW, Option.bind_some, ln_n0 hW, Option.bind_some, eq, if_pos (nI_lt hj (by omega)), Option.bind_some, ln_is0 hW, Option.bind_some, show F_J4_charAt_5068e S h (A 211) (nI j) = _ from e, Option.bind_some, (tn_ch v (by omega)).1, Option.bind_some]
    refine ⟨.inl (nI v), h, nI v, nI 0, by rw [ec]; rfl, .inl ⟨rfl, rfl⟩, ⟨_, _, _, _, hW⟩, fun K h HX => ?_⟩
    have hW := HX _ _ _ _ hW
    obtain ⟨hl, em⟩ := WD_m hW
    have e25 := mg_25 (M := mw_ Z) hl
    rw [em] at e25
    have e25 : fx_gI h (lm_ A 0) 6 25 = some (nI q) := e25.trans (congrArg some em25)
    have hin : F_X6_in h (nI j) (ki 0) (nI q - ki 1) = some (bI_ (S_ q (nI j))) := by rw [m_in]; rfl
    have nb := NB_no (h1 := h) (v := nI 0) hW s
    have e5 := m5_e (M := mw_ Z) (v := nI 0) hl
    rw [em] at e5
    refine ⟨_, ?_, nb.2, nb.1⟩
    · show F_X6_character h (lm_ A 0) (nI j) = _
      unfold F_X6_character
      rw [e25, Option.bind_some, hin, Option.bind_some, if_neg (fun y => bI_0.mp y hg), kj_i0, e5, Option.bind_some, m5_g hl, Option.bind_some, if_pos (show nI 0 ≤ 0 by decide), mr_24 hl, Option.bind_some, ma_10 hl (by omega), Option.bind_some, m5_r (by decide), show mw_ Z 10 j = nI v from ev, (tn_ch v (by omega)).2, (tn_ch v (by omega)).1, Option.bind_some]
  · have ec : F_X5_character S h (A 209) x = some (.inr "java/lang/IndexOutOfBoundsException") := by
      unfold F_X5_character
      by_cases hx : x < 0
      · rw [if_pos hx]
      · rw [if_neg hx, X_lin hW, Option.bind_some, ln_is0 hW, Option.bind_some, ln_n0 hW, Option.bind_some, eq, if_neg (fun y => hg (esz.mpr ⟨hx, y⟩))]
    refine ⟨.inr "java/lang/IndexOutOfBoundsException", h, nI 32, nI 1, by rw [ec]; rfl, .inr ⟨0, _, rfl, rfl, rfl⟩, ⟨_, _, _, _, hW⟩, fun K h HX => ?_⟩
    have hW := HX _ _ _ _ hW
    obtain ⟨hl, em⟩ := WD_m hW
    have e25 := mg_25 (M := mw_ Z) hl
    rw [em] at e25
    have e25 : fx_gI h (lm_ A 0) 6 25 = some (nI q) := e25.trans (congrArg some em25)
    have hin : F_X6_in h x (ki 0) (nI q - ki 1) = some (bI_ (S_ q x)) := by rw [m_in]; rfl
    have nb := NB_no (h1 := h) (v := nI 1) hW s
    have e5 := m5_e (M := mw_ Z) (v := nI 1) hl
    rw [em] at e5
    refine ⟨_, ?_, nb.2, nb.1⟩
    · show F_X6_character h (lm_ A 0) x = _
      unfold F_X6_character
      rw [e25, Option.bind_some, hin, Option.bind_some, if_pos (bI_0.mpr hg), kj_i1, e5, Option.bind_some, m5_g hl, Option.bind_some, if_neg (show ¬ nI 1 ≤ 0 by decide), kk_b32, (tn_ch 32 (by decide)).1, Option.bind_some]
end TL

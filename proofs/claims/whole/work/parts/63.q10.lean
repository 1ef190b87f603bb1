/-! accounts, means, going back -/
def exL_ : List String := ["java/lang/IllegalArgumentException"]
def exS_ : List String := ["java/lang/IllegalStateException"]
def q_acc (Z : Nat → Nat → Int32) (n : Nat) (x : Int32) : Int32 ⊕ Nat := if x = nI 0 then .inl (nI n) else if x = nI 1 then .inl (qL_ (Z 214) (nI 2)) else if x = nI 2 then .inl (Z 214 1) else if x = nI 3 then .inl (Z 214 2) else if x = nI 4 then .inl (qM_ (Z 214) n (nI 0) + qM_ (Z 214) n (nI 1)) else if x = nI 5 then .inl (qU_ (Z 214) 3 n) else if x = nI 6 then .inl (Z 214 4) else if x = nI 7 then .inl (Z 214 5) else if x = nI 8 then .inl (Z 214 6) else if x = nI 9 then .inl (Z 214 7) else if x = nI 10 then .inl (Z 214 8) else if x = nI 11 then .inl (Z 214 9) else if x = nI 12 then .inl (Z 213 19) else if x = nI 13 then .inl (Z 213 6) else .inr 0
theorem fp_mean : ∀ s : Nat, s < 401 → ∀ n : Nat, n < 11 → n ≠ 0 → (FP.ddiv (FP.i2d (nI s)) (FP.i2d (nI n)) &&& 0x7fffffffffffffff ≤ 0x7ff0000000000000 ∧ FP.dcmp (FP.ddiv (FP.i2d (nI s)) (FP.i2d (nI n))) (FP.ddiv (FP.i2d (nI s)) (FP.i2d (nI n))) = some .eq) := by
  decide +kernel
theorem fp_share : ∀ s : Nat, s < 21 → ∀ n : Nat, n < 11 → n ≠ 0 → (FP.fdiv (FP.i2f (nI s)) (FP.i2f (nI n)) &&& 0x7fffffff ≤ 0x7f800000 ∧ FP.f2d (FP.fdiv (FP.i2f (nI s)) (FP.i2f (nI n))) &&& 0x7fffffffffffffff ≤ 0x7ff0000000000000 ∧ FP.dcmp (FP.f2d (FP.fdiv (FP.i2f (nI s)) (FP.i2f (nI n)))) (FP.f2d (FP.fdiv (FP.i2f (nI s)) (FP.i2f (nI n)))) = some .eq) := by
  decide +kernel
theorem qM_b {T : Nat → Int32} {b : Int32} : ∀ n, ∃ c, c ≤ n ∧ qM_ T n b = nI c
  | 0 => ⟨0, Nat.le_refl 0, rfl⟩
  | n + 1 => by
    obtain ⟨c, hc, e⟩ := qM_b (T := T) (b := b) n
    have e2 : qM_ T (n + 1) b = if sT_ T n 5 = b then qM_ T n b + nI 1 else qM_ T n b := rfl
    rw [e2, e]
    split
    · exact ⟨c + 1, by omega, nI_add c 1⟩
    · exact ⟨c, by omega, rfl⟩
theorem qU_b {T : Nat → Int32} {m : Nat} (h : ∀ j, j < m → St_ (sT_ T j)) : ∀ n, n ≤ m → ∃ c, c ≤ 40 * n ∧ qU_ T 2 n = nI c
  | 0, _ => ⟨0, Nat.le_refl 0, rfl⟩
  | n + 1, hn => by
    obtain ⟨c, hc, e⟩ := qU_b h n (by omega)
    obtain ⟨-, ⟨s, h1, h2, es⟩, -⟩ := h n (by omega)
    have e2 : qU_ T 2 (n + 1) = qU_ T 2 n + sT_ T n 2 := rfl
    rw [e2, e, es]
    exact ⟨c + s, by omega, nI_add c s⟩
section W10
variable {A : Nat → Nat} {GG : Nat → Nat → Nat} {Z : Nat → Nat → Int32} {XL : Nat → Int64} {cap : Nat} {K : Nat → mm_Ce} {h h1 : mm_S} {n : Nat} {T : Nat → Int32}
/-! reading the treaty now -/
theorem N_is (hW : WD_ A GG Z XL cap K h) : fx_is h (A 0) 3 = some () := by
  have z := tv_is (g := GG 0) (w := wt_ Z 0) (WD_t hW (show 0 < 11 by decide)).1
  rw [(WD_t hW (by decide)).2] at z
  exact z
theorem N_n (hW : WD_ A GG Z XL cap K h) (R : R_ (GG 0) (wt_ Z 0) T n) : fx_gI h (A 0) 3 3 = some (nI n) := by
  have hl := (WD_t hW (show 0 < 11 by decide)).1
  have z := T_n hl R
  rw [(WD_t hW (by decide)).2] at z
  exact z
theorem N_d (hW : WD_ A GG Z XL cap K h) (R : R_ (GG 0) (wt_ Z 0) T n) : fx_gI h (A 0) 3 4 = some (T 1) := by
  have hl := (WD_t hW (show 0 < 11 by decide)).1
  have z := T_d hl R
  rw [(WD_t hW (by decide)).2] at z
  exact z
theorem N_t (hW : WD_ A GG Z XL cap K h) (R : R_ (GG 0) (wt_ Z 0) T n) : fx_gI h (A 0) 3 5 = some (T 3) := by
  have hl := (WD_t hW (show 0 < 11 by decide)).1
  have z := T_t hl R
  rw [(WD_t hW (by decide)).2] at z
  exact z
theorem N_c (hW : WD_ A GG Z XL cap K h) (R : R_ (GG 0) (wt_ Z 0) T n) : fx_gI h (A 0) 3 6 = some (T 2) := by
  have hl := (WD_t hW (show 0 < 11 by decide)).1
  have z := T_c hl R
  rw [(WD_t hW (by decide)).2] at z
  exact z
theorem N_v (hW : WD_ A GG Z XL cap K h) (R : R_ (GG 0) (wt_ Z 0) T n) : fx_gI h (A 0) 3 7 = some (T 5) := by
  have hl := (WD_t hW (show 0 < 11 by decide)).1
  have z := T_v hl R
  rw [(WD_t hW (by decide)).2] at z
  exact z
theorem N_k (hW : WD_ A GG Z XL cap K h) (R : R_ (GG 0) (wt_ Z 0) T n) : fx_gI h (A 0) 3 8 = some (T 8) := by
  have hl := (WD_t hW (show 0 < 11 by decide)).1
  have z := T_k hl R
  rw [(WD_t hW (by decide)).2] at z
  exact z
theorem N_h (hW : WD_ A GG Z XL cap K h) (R : R_ (GG 0) (wt_ Z 0) T n) : fx_gI h (A 0) 3 9 = some (T 9) := by
  have hl := (WD_t hW (show 0 < 11 by decide)).1
  have z := T_h hl R
  rw [(WD_t hW (by decide)).2] at z
  exact z
theorem N_du (hW : WD_ A GG Z XL cap K h) (R : R_ (GG 0) (wt_ Z 0) T n) : F_X3_dustOnAll h (A 0) = some (qU_ T 3 n) := by
  have hl := (WD_t hW (show 0 < 11 by decide)).1
  have z := T_du hl R
  rw [(WD_t hW (by decide)).2] at z
  exact z
theorem N_ss (hW : WD_ A GG Z XL cap K h) (R : R_ (GG 0) (wt_ Z 0) T n) : F_X3_stepsOfAll h (A 0) = some (qU_ T 2 n) := by
  have hl := (WD_t hW (show 0 < 11 by decide)).1
  have z := T_ss hl R
  rw [(WD_t hW (by decide)).2] at z
  exact z
theorem N_L (hW : WD_ A GG Z XL cap K h) (R : R_ (GG 0) (wt_ Z 0) T n) (o : Int32) : F_X3_landingsOf h (A 0) o = some (qL_ T o) := by
  have hl := (WD_t hW (show 0 < 11 by decide)).1
  have z := T_L hl R o
  rw [(WD_t hW (by decide)).2] at z
  exact z
theorem N_M (hW : WD_ A GG Z XL cap K h) (R : R_ (GG 0) (wt_ Z 0) T n) (o : Int32) : F_X3_leasesOf h (A 0) o = some (qM_ T n o) := by
  have hl := (WD_t hW (show 0 < 11 by decide)).1
  have z := T_M hl R o
  rw [(WD_t hW (by decide)).2] at z
  exact z
theorem N_O (hW : WD_ A GG Z XL cap K h) (R : R_ (GG 0) (wt_ Z 0) T n) {k : Nat} (hk : k < 8) : fx_aI h (A 2) (nI k) = some (oT_ T k) := by
  have hl := (WD_t hW (show 0 < 11 by decide)).1
  have z := T_O hl R hk
  rw [(WD_t hW (by decide)).2] at z
  exact z
theorem N_G (hW : WD_ A GG Z XL cap K h) (R : R_ (GG 0) (wt_ Z 0) T n) {b k : Nat} (hb : b < 2) (hk : k < 5) : fx_gI h (A (b + 4)) 0 k = some (gT_ T b k) := by
  have hl := (WD_t hW (show 0 < 11 by decide)).1
  have z := T_G hl R hb hk
  rw [(WD_t hW (by decide)).2] at z
  have e2 : lt_ A 0 (b + 4) = A (b + 4) := by show A (16 * 0 + (b + 4)) = _; rw [show 16 * 0 + (b + 4) = b + 4 from by omega]
  rw [e2] at z
  exact z
theorem N_r0 (hW : WD_ A GG Z XL cap K h) : fx_gR h (A 0) 3 0 = some (A 1) := by
  have z := tv_r0 (g := GG 0) (w := wt_ Z 0) (WD_t hW (show 0 < 11 by decide)).1
  rw [(WD_t hW (by decide)).2] at z
  exact z
theorem N_r1 (hW : WD_ A GG Z XL cap K h) : fx_gR h (A 0) 3 1 = some (A 2) := by
  have z := tv_r1 (g := GG 0) (w := wt_ Z 0) (WD_t hW (show 0 < 11 by decide)).1
  rw [(WD_t hW (by decide)).2] at z
  exact z
theorem N_aG (hW : WD_ A GG Z XL cap K h) {b : Nat} (hb : b < 2) : fx_aR h (A 1) (nI b) = some (A (b + 4)) := by
  have z := tv_aG (g := GG 0) (w := wt_ Z 0) (WD_t hW (show 0 < 11 by decide)).1 hb
  rw [(WD_t hW (by decide)).2] at z
  have e1 : lt_ A 0 1 = A 1 := rfl
  have e2 : lt_ A 0 (b + 4) = A (b + 4) := by show A (16 * 0 + (b + 4)) = _; rw [show 16 * 0 + (b + 4) = b + 4 from by omega]
  rw [e1, e2] at z
  exact z
/-! the orders' text -/
theorem WD_zv (hW : WD_ A GG Z XL cap K h) : ov_L 20 (lz_ A) h ∧ ov_ 20 (zc_ (lz_ A) (zw_ Z) cap) (lz_ A) h = h :=
  ⟨W_L hW (by omega), W_eq hW (by omega) (fun j hj => WD_zc hj)⟩
theorem Z_txt (hW : WD_ A GG Z XL cap K h) : fx_gR h (A 189) 1 0 = some (A 207) := by
  have z := ox_gR (c := zc_ (lz_ A) (zw_ Z) cap) (k := 0) (WD_zv hW).1 (show 0 < 20 by decide) rfl rfl
  rw [(WD_zv hW).2] at z
  exact z
theorem Z_tis (hW : WD_ A GG Z XL cap K h) : fx_is h (A 207) 7 = some () := by
  have z := ox_is (c := zc_ (lz_ A) (zw_ Z) cap) (WD_zv hW).1 (show 18 < 20 by decide) rfl
  rw [(WD_zv hW).2] at z
  exact z
theorem Z_tn (hW : WD_ A GG Z XL cap K h) : fx_gI h (A 207) 7 3 = some (Z 207 3) := by
  have z := ox_gI (c := zc_ (lz_ A) (zw_ Z) cap) (k := 3) (WD_zv hW).1 (show 18 < 20 by decide) rfl rfl
  rw [(WD_zv hW).2] at z
  exact z
theorem Z_len (hW : WD_ A GG Z XL cap K h) : F_J4_length_8abf5 h (A 207) = some (Z 207 3) := by
  unfold F_J4_length_8abf5 F_J5_length_8abf5
  simp only [Z_tis hW, Z_tn hW, Option.bind_some]
theorem qb_acc {x : Int32} : qb_ exL_.length (q_acc Z n x) := by
  unfold q_acc
  intro i
  by_cases c0 : x = nI 0
  · rw [if_pos c0]
    intro e
    cases e
  rw [if_neg c0]
  by_cases c1 : x = nI 1
  · rw [if_pos c1]
    intro e
    cases e
  rw [if_neg c1]
  by_cases c2 : x = nI 2
  · rw [if_pos c2]
    intro e
    cases e
  rw [if_neg c2]
  by_cases c3 : x = nI 3
  · rw [if_pos c3]
    intro e
    cases e
  rw [if_neg c3]
  by_cases c4 : x = nI 4
  · rw [if_pos c4]
    intro e
    cases e
  rw [if_neg c4]
  by_cases c5 : x = nI 5
  · rw [if_pos c5]
    intro e
    cases e
  rw [if_neg c5]
  by_cases c6 : x = nI 6
  · rw [if_pos c6]
    intro e
    cases e
  rw [if_neg c6]
  by_cases c7 : x = nI 7
  · rw [if_pos c7]
    intro e
    cases e
  rw [if_neg c7]
  by_cases c8 : x = nI 8
  · rw [if_pos c8]
    intro e
    cases e
  rw [if_neg c8]
  by_cases c9 : x = nI 9
  · rw [if_pos c9]
    intro e
    cases e
  rw [if_neg c9]
  by_cases c10 : x = nI 10
  · rw [if_pos c10]
    intro e
    cases e
  rw [if_neg c10]
  by_cases c11 : x = nI 11
  · rw [if_pos c11]
    intro e
    cases e
  rw [if_neg c11]
  by_cases c12 : x = nI 12
  · rw [if_pos c12]
    intro e
    cases e
  rw [if_neg c12]
  by_cases c13 : x = nI 13
  · rw [if_pos c13]
    intro e
    cases e
  rw [if_neg c13]
  intro e
  cases e
  decide
theorem o_account (hs : ST_ A K h) (x : Int32) : RS_ A K exL_ ((F_X5_account h (A 209) x).bind fun o => some (o, h)) (fun h1 => F_X6_account h1 (A 213) x) := by
  obtain ⟨GG, Z, XL, cap, hW, s⟩ := hs
  obtain ⟨n, hn, hT, R, I⟩ := TR_n s.1
  obtain ⟨-, -, -, -, -, -, i7, i8, i9⟩ := id I
  have hl := (WD_m hW).1
  obtain ⟨-, -, -, ⟨c, p, hc, hp, ec, ep, em6, -⟩, -, -, ⟨f, hf, ef, ef2, -⟩, -⟩ := id s
  have g03 := N_G hW R (show 0 < 2 by decide) (show 3 < 5 by decide)
  have g13 := N_G hW R (show 1 < 2 by decide) (show 3 < 5 by decide)
  have g04 := N_G hW R (show 0 < 2 by decide) (show 4 < 5 by decide)
  have g14 := N_G hW R (show 1 < 2 by decide) (show 4 < 5 by decide)
  have g02 := N_G hW R (show 0 < 2 by decide) (show 2 < 5 by decide)
  have g12 := N_G hW R (show 1 < 2 by decide) (show 2 < 5 by decide)
  have a0 := N_aG hW (show 0 < 2 by decide)
  have a1 := N_aG hW (show 1 < 2 by decide)
  simp only [Nat.zero_add, Nat.reduceAdd] at g03 g13 g04 g14 g02 g12 a0 a1
  have hcl : F_X5_account h (A 209) x = some (qo_ exL_ (q_acc Z n x)) := by
    unfold F_X5_account q_acc
    simp only [X_now hW, X_ord hW, X_cnt hW, Z_txt hW, Z_tis hW, Z_len hW, N_n hW R, N_d hW R, N_c hW R, N_v hW R, N_k hW R, N_h hW R, N_du hW R, N_L hW R, N_M hW R, N_is hW, N_r0 hW, a0, a1, g03, g13, g04, g14, g02, g12, kj_i0, kj_i1, kj_i2, Option.bind_some, i7, i8, i9, ef, ef2, ec, em6]
    by_cases c0 : x = nI 0
    · rw [if_pos c0, if_pos c0]
      rfl
    rw [if_neg c0, if_neg c0]
    by_cases c1 : x = nI 1
    · rw [if_pos c1, if_pos c1]
      rfl
    rw [if_neg c1, if_neg c1]
    by_cases c2 : x = nI 2
    · rw [if_pos c2, if_pos c2]
      rfl
    rw [if_neg c2, if_neg c2]
    by_cases c3 : x = nI 3
    · rw [if_pos c3, if_pos c3]
      rfl
    rw [if_neg c3, if_neg c3]
    by_cases c4 : x = nI 4
    · rw [if_pos c4, if_pos c4]
      rfl
    rw [if_neg c4, if_neg c4]
    by_cases c5 : x = nI 5
    · rw [if_pos c5, if_pos c5]
      rfl
    rw [if_neg c5, if_neg c5]
    by_cases c6 : x = nI 6
    · rw [if_pos c6, if_pos c6]
      rfl
    rw [if_neg c6, if_neg c6]
    by_cases c7 : x = nI 7
    · rw [if_pos c7, if_pos c7]
      rfl
    rw [if_neg c7, if_neg c7]
    by_cases c8 : x = nI 8
    · rw [if_pos c8, if_pos c8]
      rfl
    rw [if_neg c8, if_neg c8]
    by_cases c9 : x = nI 9
    · rw [if_pos c9, if_pos c9]
      rfl
    rw [if_neg c9, if_neg c9]
    by_cases c10 : x = nI 10
    · rw [if_pos c10, if_pos c10]
      rfl
    rw [if_neg c10, if_neg c10]
    by_cases c11 : x = nI 11
    · rw [if_pos c11, if_pos c11]
      rfl
    rw [if_neg c11, if_neg c11]
    by_cases c12 : x = nI 12
    · rw [if_pos c12, if_pos c12]
      rfl
    rw [if_neg c12, if_neg c12]
    by_cases c13 : x = nI 13
    · rw [if_pos c13, if_pos c13]
      rfl
    rw [if_neg c13, if_neg c13]
    rfl
  rw [hcl]
  refine q_gen (q := q_acc Z n x) hW s rfl (fun K h hW => ⟨m5_ (mw_ Z) (qk_ (q_acc Z n x)), ?_, NB_m5, w5_5⟩) qb_acc
  have hl := (WD_m hW).1
  show F_X6_account (mv_ (lm_ A) (mw_ Z) h) (lm_ A 0) x = _
  have hT5 : m5_ (mw_ Z) (nI 0) 1 0 = nI n := by rw [m5_1]; exact hT
  have e6 : m5_ (mw_ Z) (nI 0) 0 6 = Z 213 6 := w2_n2 (by decide)
  have e19 : m5_ (mw_ Z) (nI 0) 0 19 = Z 213 19 := w2_n2 (by decide)
  have e1 : m5_ (mw_ Z) (nI 0) 1 = Z 214 := m5_1
  have r0 : m5_ (mw_ Z) (nI 0) 1 0 = nI n := hT5
  have h0 : (0 : Nat) < 110 := by decide
  have h1 : (1 : Nat) < 110 := by decide
  have h2 : (2 : Nat) < 110 := by decide
  have h4 : (4 : Nat) < 110 := by decide
  have h5 : (5 : Nat) < 110 := by decide
  have h6 : (6 : Nat) < 110 := by decide
  have h7 : (7 : Nat) < 110 := by decide
  have h8 : (8 : Nat) < 110 := by decide
  have h9 : (9 : Nat) < 110 := by decide
  unfold F_X6_account q_acc
  simp only [kj_i0, m5_e hl, Option.bind_some, mr_0 hl, m_at hl h0, m_at hl h1, m_at hl h2, m_at hl h4, m_at hl h5, m_at hl h6, m_at hl h7, m_at hl h8, m_at hl h9, kj_i1, kj_i2, kj_i3, kj_i4, kj_i5, kk_b6, kk_b7, kk_b8, kk_b9, mv_is hl, m_L hl, m_M hl hT5 hn, m_U hl hT5 hn (show 3 < 7 by decide), mg_19 hl, mg_6 hl, m5_n hl, m5_5, e6, e19, e1, hT]
  by_cases c0 : x = nI 0
  · simp only [if_pos c0]
    rfl
  simp only [if_neg c0]
  by_cases c1 : x = nI 1
  · simp only [if_pos c1]
    rfl
  simp only [if_neg c1]
  by_cases c2 : x = nI 2
  · simp only [if_pos c2]
    rfl
  simp only [if_neg c2]
  by_cases c3 : x = nI 3
  · simp only [if_pos c3]
    rfl
  simp only [if_neg c3]
  by_cases c4 : x = nI 4
  · simp only [if_pos c4]
    rfl
  simp only [if_neg c4]
  by_cases c5 : x = nI 5
  · simp only [if_pos c5]
    rfl
  simp only [if_neg c5]
  by_cases c6 : x = nI 6
  · simp only [if_pos c6]
    rfl
  simp only [if_neg c6]
  by_cases c7 : x = nI 7
  · simp only [if_pos c7]
    rfl
  simp only [if_neg c7]
  by_cases c8 : x = nI 8
  · simp only [if_pos c8]
    rfl
  simp only [if_neg c8]
  by_cases c9 : x = nI 9
  · simp only [if_pos c9]
    rfl
  simp only [if_neg c9]
  by_cases c10 : x = nI 10
  · simp only [if_pos c10]
    rfl
  simp only [if_neg c10]
  by_cases c11 : x = nI 11
  · simp only [if_pos c11]
    rfl
  simp only [if_neg c11]
  by_cases c12 : x = nI 12
  · simp only [if_pos c12]
    rfl
  simp only [if_neg c12]
  by_cases c13 : x = nI 13
  · simp only [if_pos c13]
    rfl
  simp only [if_neg c13]
  rfl
def OKg_ {α : Type} (o : α ⊕ String) (v : α) (k : Int32) (E : String) (P : α → Prop) : Prop := (k = nI 0 ∧ o = .inl v ∧ P v) ∨ (o = .inr E ∧ k = nI 1)
theorem p_mean {GG : Nat → Nat → Nat} {Z : Nat → Nat → Int32} {XL : Nat → Int64} {cap : Nat} (s : SM_ GG Z XL cap) : ∃ (o : UInt64 ⊕ String) (v : UInt64) (k : Int32), OKg_ o v k "java/lang/ArithmeticException" (fun v => FP.dcmp v v = some .eq) ∧ ∀ (K : Nat → mm_Ce) (h : mm_S), WD_ A GG Z XL cap K h → F_X5_meanSteps h (A 209) = some o ∧ ∃ h2, F_X6_meanSteps h (A 213) = some (v, h2) ∧ fx_gI h2 (A 213) 6 5 = some k ∧ ST_ A K h2 := by
  obtain ⟨n, hn, hT, R, I⟩ := TR_n s.1
  obtain ⟨c, hc, eU⟩ := qU_b I.2.2.2.2.1 n (Nat.le_refl n)
  by_cases h0 : n = 0
  · subst h0
    refine ⟨_, FP.dconst0, nI 1, .inr ⟨rfl, rfl⟩, fun K h hW => ?_⟩
    obtain ⟨hl, em⟩ := WD_m hW
    have ea := m_at (M := mw_ Z) hl (show 0 < 110 by decide)
    have er := mr_0 (M := mw_ Z) hl
    rw [em] at ea er
    have ea : fx_aI h (lm_ A 1) (nI 0) = some (nI 0) := ea.trans (congrArg some hT)
    have e5 := m5_e (M := mw_ Z) (v := nI 1) hl
    rw [em] at e5
    obtain ⟨a1, a2⟩ := NB_ST hW s (NB_m5 (M := mw_ Z) (k := nI 1))
    refine ⟨?_, _, ?_, a2.trans (congrArg some w5_5), a1⟩
    · unfold F_X5_meanSteps
      rw [X_now hW, Option.bind_some, N_n hW R, Option.bind_some, if_neg (fun q => q rfl)]
    · show F_X6_meanSteps h (lm_ A 0) = _
      unfold F_X6_meanSteps
      rw [er, Option.bind_some, kj_i0, ea, Option.bind_some, if_neg (fun q => q rfl), kj_i1, e5, Option.bind_some, if_neg (fun q => q rfl)]
  · have hne : nI n ≠ 0 := nI_ne0 (by omega) (by omega)
    have fp := fp_mean c (by omega) n (by omega) h0
    have ed : fx_ddiv (FP.i2d (nI c)) (FP.i2d (nI n)) = some (FP.ddiv (FP.i2d (nI c)) (FP.i2d (nI n))) := by
      unfold fx_ddiv
      rw [if_pos fp.1]
    refine ⟨_, _, nI 0, .inl ⟨rfl, rfl, fp.2⟩, fun K h hW => ?_⟩
    obtain ⟨hl, em⟩ := WD_m hW
    have ea := m_at (M := mw_ Z) hl (show 0 < 110 by decide)
    have er := mr_0 (M := mw_ Z) hl
    rw [em] at ea er
    have ea : fx_aI h (lm_ A 1) (nI 0) = some (nI n) := ea.trans (congrArg some hT)
    have e5 := m5_e (M := mw_ Z) (v := nI 0) hl
    rw [em] at e5
    obtain ⟨a1, a2⟩ := NB_ST hW s (NB_m5 (M := mw_ Z) (k := nI 0))
    have eu := m_U (M := m5_ (mw_ Z) (nI 0)) (h := h) (n := n) (k := 2) hl (by rw [m5_1]; exact hT) hn (by decide)
    rw [m5_1] at eu
    refine ⟨?_, _, ?_, a2.trans (congrArg some w5_5), a1⟩
    · unfold F_X5_meanSteps
      rw [X_now hW, Option.bind_some, N_n hW R, Option.bind_some, if_pos hne, Option.bind_some, N_is hW, Option.bind_some, N_ss hW R, Option.bind_some, Option.bind_some, N_n hW R, Option.bind_some, eU, ed, Option.bind_some]
    · show F_X6_meanSteps h (lm_ A 0) = _
      unfold F_X6_meanSteps
      rw [er, Option.bind_some, kj_i0, ea, Option.bind_some, if_pos hne, e5, Option.bind_some, if_pos hne, mv_is hl, Option.bind_some, kj_i2, eu, Option.bind_some, show qU_ (mw_ Z 1) 2 n = nI c from eU, ed, Option.bind_some]
theorem o_mean (hs : ST_ A K h) : ∃ o v k, F_X5_meanSteps h (A 209) = some o ∧ OKg_ o v k "java/lang/ArithmeticException" (fun v => FP.dcmp v v = some .eq) ∧ ∀ (K2 : Nat → mm_Ce) (H : mm_S), (∀ (GG : Nat → Nat → Nat) (Z : Nat → Nat → Int32) (XL : Nat → Int64) (cap : Nat), WD_ A GG Z XL cap K h → WD_ A GG Z XL cap K2 H) → ∃ h2, F_X6_meanSteps H (A 213) = some (v, h2) ∧ fx_gI h2 (A 213) 6 5 = some k ∧ ST_ A K2 h2 := by
  obtain ⟨GG, Z, XL, cap, hW, s⟩ := hs
  obtain ⟨o, v, k, a1, a2⟩ := p_mean (A := A) s
  exact ⟨o, v, k, (a2 K h hW).1, a1, fun K2 H HX => (a2 K2 H (HX _ _ _ _ hW)).2⟩
theorem p_share {GG : Nat → Nat → Nat} {Z : Nat → Nat → Int32} {XL : Nat → Int64} {cap : Nat} (s : SM_ GG Z XL cap) : ∃ (o : UInt32 ⊕ String) (v : UInt32) (k : Int32), OKg_ o v k "java/lang/ArithmeticException" (fun v => vf_n64 (FP.f2d v) ∧ FP.dcmp (FP.f2d v) (FP.f2d v) = some .eq) ∧ ∀ (K : Nat → mm_Ce) (h : mm_S), WD_ A GG Z XL cap K h → F_X5_leasedShare h (A 209) = some o ∧ ∃ h2, F_X6_leasedShare h (A 213) = some (v, h2) ∧ fx_gI h2 (A 213) 6 5 = some k ∧ ST_ A K h2 := by
  obtain ⟨n, hn, hT, R, I⟩ := TR_n s.1
  obtain ⟨c, hc, eU⟩ := qM_b (T := Z 214) (b := nI 0) n
  obtain ⟨d, hd, eV⟩ := qM_b (T := Z 214) (b := nI 1) n
  by_cases h0 : n = 0
  · subst h0
    refine ⟨_, FP.fconst0, nI 1, .inr ⟨rfl, rfl⟩, fun K h hW => ?_⟩
    obtain ⟨hl, em⟩ := WD_m hW
    have ea := m_at (M := mw_ Z) hl (show 0 < 110 by decide)
    have er := mr_0 (M := mw_ Z) hl
    rw [em] at ea er
    have ea : fx_aI h (lm_ A 1) (nI 0) = some (nI 0) := ea.trans (congrArg some hT)
    have e5 := m5_e (M := mw_ Z) (v := nI 1) hl
    rw [em] at e5
    obtain ⟨a1, a2⟩ := NB_ST hW s (NB_m5 (M := mw_ Z) (k := nI 1))
    refine ⟨?_, _, ?_, a2.trans (congrArg some w5_5), a1⟩
    · unfold F_X5_leasedShare
      rw [X_now hW, Option.bind_some, N_n hW R, Option.bind_some, if_neg (fun q => q rfl)]
    · show F_X6_leasedShare h (lm_ A 0) = _
      unfold F_X6_leasedShare F_X6_leasedShare_B17
      rw [er, Option.bind_some, kj_i0, ea, Option.bind_some, if_neg (fun q => q rfl), kj_i1, e5, Option.bind_some, if_neg (fun q => q rfl)]
  · have hne : nI n ≠ 0 := nI_ne0 (by omega) (by omega)
    have fp := fp_share (c + d) (by omega) n (by omega) h0
    have ed : fx_fdiv (FP.i2f (nI c + nI d)) (FP.i2f (nI n)) = some (FP.fdiv (FP.i2f (nI (c + d))) (FP.i2f (nI n))) := by
      unfold fx_fdiv
      rw [nI_add, if_pos fp.1]
    refine ⟨_, _, nI 0, .inl ⟨rfl, rfl, fp.2⟩, fun K h hW => ?_⟩
    obtain ⟨hl, em⟩ := WD_m hW
    have ea := m_at (M := mw_ Z) hl (show 0 < 110 by decide)
    have er := mr_0 (M := mw_ Z) hl
    rw [em] at ea er
    have ea : fx_aI h (lm_ A 1) (nI 0) = some (nI n) := ea.trans (congrArg some hT)
    have e5 := m5_e (M := mw_ Z) (v := nI 0) hl
    rw [em] at e5
    obtain ⟨a1, a2⟩ := NB_ST hW s (NB_m5 (M := mw_ Z) (k := nI 0))
    have eu := fun o => m_M (M := m5_ (mw_ Z) (nI 0)) (h := h) (n := n) hl (by rw [m5_1]; exact hT) hn o
    rw [m5_1] at eu
    refine ⟨?_, _, ?_, a2.trans (congrArg some w5_5), a1⟩
    · unfold F_X5_leasedShare
      rw [X_now hW, Option.bind_some, N_n hW R, Option.bind_some, if_pos hne, Option.bind_some, N_is hW, Option.bind_some, N_M hW R, Option.bind_some, Option.bind_some, N_is hW, Option.bind_some, N_M hW R, Option.bind_some, Option.bind_some, N_n hW R, Option.bind_some, kj_i0, kj_i1, eU, eV, ed, Option.bind_some]
    · show F_X6_leasedShare h (lm_ A 0) = _
      unfold F_X6_leasedShare F_X6_leasedShare_B17
      rw [er, Option.bind_some, kj_i0, ea, Option.bind_some, if_pos hne, e5, Option.bind_some, if_pos hne, mv_is hl, Option.bind_some, eu, Option.bind_some, Option.bind_some, kj_i1, eu, Option.bind_some, show qM_ (mw_ Z 1) n (nI 0) = nI c from eU, show qM_ (mw_ Z 1) n (nI 1) = nI d from eV, ed, Option.bind_some]
theorem o_share (hs : ST_ A K h) : ∃ o v k, F_X5_leasedShare h (A 209) = some o ∧ OKg_ o v k "java/lang/ArithmeticException" (fun v => vf_n64 (FP.f2d v) ∧ FP.dcmp (FP.f2d v) (FP.f2d v) = some .eq) ∧ ∀ (K2 : Nat → mm_Ce) (H : mm_S), (∀ (GG : Nat → Nat → Nat) (Z : Nat → Nat → Int32) (XL : Nat → Int64) (cap : Nat), WD_ A GG Z XL cap K h → WD_ A GG Z XL cap K2 H) → ∃ h2, F_X6_leasedShare H (A 213) = some (v, h2) ∧ fx_gI h2 (A 213) 6 5 = some k ∧ ST_ A K2 h2 := by
  obtain ⟨GG, Z, XL, cap, hW, s⟩ := hs
  obtain ⟨o, v, k, a1, a2⟩ := p_share (A := A) s
  exact ⟨o, v, k, (a2 K h hW).1, a1, fun K2 H HX => (a2 K2 H (HX _ _ _ _ hW)).2⟩
end W10

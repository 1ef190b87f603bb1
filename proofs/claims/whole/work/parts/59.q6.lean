/-! rents to come, and ways, in the world -/
section W6
variable {A : Nat → Nat} {GG : Nat → Nat → Nat} {Z : Nat → Nat → Int32} {XL : Nat → Int64} {cap : Nat} {K : Nat → mm_Ce} {h h1 : mm_S}
theorem va_id {GG : Nat → Nat → Nat} {k : Nat} : va_up GG k (GG k) = GG := by
  funext j
  unfold va_up
  split
  · next q => rw [q]
  · rfl
/-- the draft may be anything -/
theorem SM_draft (s : SM_ GG Z XL cap) {g' : Nat → Nat} (hg : gs_ g') {w' : Nat → Nat → Int32} : SM_ (va_up GG 1 g') (zu_ Z (16 * 1) 16 w') XL cap :=
  SM_cg s (fun k hk => va_up_ne _ _ hk) (by rw [va_up_self]; exact hg) (fun i hi => zu_out (by omega)) (fun _ _ => by rw [zu_out (by decide)]) (zu_out (by decide)) (zu_out (by decide)) (zu_out (by decide)) (zu_out (by decide)) (fun _ _ => by rw [zu_out (by decide)])
/-- so may the ways -/
theorem SM_ways (s : SM_ GG Z XL cap) {y' : Nat → Nat → Int32} : SM_ GG (zu_ Z 176 13 y') XL cap :=
  SM_cg s (fun k hk => rfl) (s.2.1 1 (by decide)) (fun i hi => zu_out (by omega)) (fun _ _ => by rw [zu_out (by decide)]) (zu_out (by decide)) (zu_out (by decide)) (zu_out (by decide)) (zu_out (by decide)) (fun _ _ => by rw [zu_out (by decide)])
def exR_ : List String := ["java/lang/IllegalArgumentException"]
theorem mC_r {M : Nat → Nat → Int32} {i a j c n x : Nat} (h : x ≠ j) : mC_ M i a j c n x = M x := by
  funext k
  rw [mC_v, if_neg (fun q => h q.1)]
theorem mq_rents {l : Nat → Nat} {M : Nat → Nat → Int32} {n : Nat} (hl : ov_L 11 l h) (hT : M 1 0 = nI n) (hn : n ≤ 10) (I : I_ (M 1) n) (d : Int32) : ∃ M', F_X6_rentsIn (mv_ l M h) (l 0) d = some (qv_ (q_rents (M 1) n d), mv_ l M' h) ∧ M' 0 = m5_ M (qk_ (q_rents (M 1) n d)) 0 ∧ (∀ i, i < 110 → M' 1 i = M 1 i) ∧ ∀ a, a ≠ 0 → a ≠ 1 → a ≠ 3 → M' a = M a := by
  unfold F_X6_rentsIn F_X6_areDays F_X6_rentsIn_B13 q_rents
  simp only [m_in, Option.bind_some, bI_nar, kj_l0, kj_i0, kk_b40, kj_i1, bI_n, m5_e hl, m5_g hl]
  by_cases hd : In_ (nI 0) (nI 40) d = true
  · obtain ⟨k, hk, rfl⟩ := In_of (by decide) hd
    rw [if_neg (fun q => q hd), if_pos hd, if_pos (Int32.le_refl _), mr_0 hl, Option.bind_some, mr_2 hl, Option.bind_some, m_copies hl (fun _ _ hk => ma_1 hl hk) (fun _ _ _ hk => ms_3 hl hk) (by decide) (by decide) (.inl (by decide)), Option.bind_some]
    have e1 : mC_ (m5_ M (nI 0)) 1 0 3 0 110 1 = M 1 := by rw [mC_r (by decide), m5_1]
    have er := m_rents (M := mC_ (m5_ M (nI 0)) 1 0 3 0 110) (h := h) (k := k) hl (by rw [e1]; exact hT) hn (by rw [e1]; exact I) hk
    rw [e1] at er
    rw [er, Option.bind_some, mr_2 hl, Option.bind_some, mr_0 hl, Option.bind_some, m_copies hl (fun _ _ hk => ma_3 hl hk) (fun _ _ _ hk => ms_1 hl hk) (by decide) (by decide) (.inl (by decide)), Option.bind_some, cl_nI (show k < 2 ^ 31 by omega)]
    refine ⟨_, rfl, ?_, fun i hi => ?_, fun a h0 h1 h3 => ?_⟩
    · rw [mC_r (by decide), mT_n (by decide), mC_r (by decide)]
      rfl
    · rw [mC_v, if_pos (by omega), mT_n (by decide), mC_v, if_pos (by omega), m5_1, show 0 + (0 + (i - 0) - 0) = i from by omega]
    · rw [mC_r h1, mT_n h1, mC_r h3, m5_r h0]
  · rw [if_pos hd, if_neg hd, if_neg (by decide)]
    exact ⟨_, rfl, rfl, fun i _ => by rw [m5_1], fun a h0 _ _ => m5_r h0⟩
theorem o_rentsIn (hs : ST_ A K h) (d : Int32) : RS_ A K exR_ (F_X5_rentsIn h (A 209) d) (fun h1 => F_X6_rentsIn h1 (A 213) d) := by
  obtain ⟨GG, Z, XL, cap, hW, s⟩ := hs
  obtain ⟨n, hn, hT, R, I⟩ := TR_n s.1
  -- the class
  have hcl : ∃ GG1 Z1 h1, F_X5_rentsIn h (A 209) d = some (qo_ exR_ (q_rents (Z 214) n d), h1) ∧ WD_ A GG1 Z1 XL cap K h1 ∧ SM_ GG1 Z1 XL cap ∧ mw_ Z1 = mw_ Z := by
    unfold F_X5_rentsIn q_rents
    rw [kj_i0, kk_b40, c_in, Option.bind_some]
    by_cases hd : In_ (nI 0) (nI 40) d = true
    · obtain ⟨k, hk, rfl⟩ := In_of (by decide) hd
      have hg := s.2.1 1 (by decide)
      obtain ⟨w', e1, R1⟩ := c_copy (g := GG 1) (w := wt_ Z 1) (WD_D hW (show 1 < 11 by decide) (show 0 < 11 by decide) (by decide)) R hg.1 hg.2
      rw [(WD_t hW (by decide)).2] at e1
      have hl1 := (WD_t hW (show 1 < 11 by decide)).1
      obtain ⟨w2, e2⟩ := c_rents (h := h) (x0 := A 209) (A := A) (k := k) hl1 R1 (fun w' => X_draft (WD_tp (g' := GG 1) (w' := w') hW (show 1 < 11 by decide))) hk
      have eis := tv_is (g := GG 1) (w := wt_ Z 1) hl1
      rw [(WD_t hW (by decide)).2] at eis
      refine ⟨_, _, _, ?_, WD_tp (g' := GG 1) (w' := w2) hW (show 1 < 11 by decide), SM_draft s hg, ?_⟩
      · rw [if_pos (fun q => bI_0.mp q hd), if_pos hd, X_draft hW, Option.bind_some, X_now hW, Option.bind_some, show fx_is h (A 16) 3 = some () from eis, Option.bind_some, show F_X3_copyFrom h (A 16) (A 0) = _ from e1, Option.bind_some, show F_X5_rentsIn_L36 1000 (A 209) (nI k) (nI 0) (nI 0) (tv_ (lt_ A 1) (GG 1) w' h) = _ from e2, Option.bind_some, cl_nI (show k < 2 ^ 31 by omega)]
        rfl
      · funext j
        exact zu_out (by omega)
    · refine ⟨GG, Z, h, ?_, hW, s, rfl⟩
      rw [if_neg (fun q => q (bI_0.mpr hd)), if_neg hd]
      rfl
  obtain ⟨GG1, Z1, h0, e1, W0, s1, eM⟩ := hcl
  refine ⟨_, h0, _, qk_ (q_rents (Z 214) n d), e1, OK_q (fun i => ?_), ⟨_, _, _, _, W0⟩, fun K h1 HX => ?_⟩
  · unfold q_rents
    split <;> (intro e; cases e; try decide)
  have W1 := HX _ _ _ _ W0
  obtain ⟨M', e2, m0, m1, ma⟩ := mq_rents (M := mw_ Z1) (WD_m W1).1 (by rw [eM]; exact hT) hn (by rw [eM]; exact I) d
  rw [(WD_m W1).2, eM] at e2
  rw [eM] at m0
  have W2 := WD_mp (M' := M') W1
  have hz : ∀ j, j < 11 → Z1 (213 + j) = Z (213 + j) := fun j _ => congrFun eM j
  refine ⟨_, e2, (mg5 W2).trans ?_, _, _, _, _, W2, ?_⟩
  · rw [show zu_ Z1 213 11 M' 213 = M' 0 from zm_in (j := 0) (by decide), m0]
    unfold m5_
    rw [w2_at]
  · refine SM_cg s1 (fun _ _ => rfl) (s1.2.1 1 (by decide)) (fun i hi => zm_out (by omega)) (fun i hi => ?_) ?_ ?_ ?_ ?_ (fun k hk => ?_)
    · rw [show zu_ Z1 213 11 M' 214 = M' 1 from zm_in (j := 1) (by decide), m1 i hi]
    · rw [show zu_ Z1 213 11 M' 217 = M' 4 from zm_in (j := 4) (by decide), ma 4 (by decide) (by decide) (by decide)]
    · rw [show zu_ Z1 213 11 M' 218 = M' 5 from zm_in (j := 5) (by decide), ma 5 (by decide) (by decide) (by decide)]
    · rw [show zu_ Z1 213 11 M' 220 = M' 7 from zm_in (j := 7) (by decide), ma 7 (by decide) (by decide) (by decide)]
    · rw [show zu_ Z1 213 11 M' 223 = M' 10 from zm_in (j := 10) (by decide), ma 10 (by decide) (by decide) (by decide)]
    · rw [show zu_ Z1 213 11 M' 213 = M' 0 from zm_in (j := 0) (by decide), m0]
      unfold m5_
      rw [w2_n2 (by omega), show Z1 213 = Z 213 from hz 0 (by decide)]
/-! ways -/
def q_step (T : Nat → Int32) (n : Nat) (d : Nat → Nat → Nat) (a b : Int32) : Int32 ⊕ Nat := if In_ (nI 0) (nI 7) a = true then (if In_ (nI 0) (nI 7) b = true then (if d (cl_ a) (cl_ b) < 1000000 then .inl (nI (d (cl_ a) (cl_ b))) else .inr 1) else .inr 0) else .inr 0
def q_way (d : Nat → Nat → Nat) (a b : Int32) : Int32 ⊕ Nat := if In_ (nI 0) (nI 1) a = true then (if In_ (nI 0) (nI 7) b = true then (if d (cl_ a) (cl_ b) < 1000000 then .inl (nI (d (cl_ a) (cl_ b))) else .inr 1) else .inr 0) else .inr 0
theorem qb_step {T : Nat → Int32} {n : Nat} {d : Nat → Nat → Nat} {a x : Int32} : qb_ exN_.length (q_step T n d a x) := by
  unfold q_step
  intro i
  repeat' split
  all_goals (intro e; cases e; try decide)
theorem qb_way {d : Nat → Nat → Nat} {a x : Int32} : qb_ exN_.length (q_way d a x) := by
  unfold q_way
  intro i
  repeat' split
  all_goals (intro e; cases e; try decide)
/-- the distances of a treaty: of steps, and for each giant from where it stands -/
theorem ds_ex (T : Nat → Int32) (n : Nat) : ∃ d : Nat → Nat → Nat, ∀ s, gd_ (ET_ T n m1_) s (d s) ∧ ∀ v, d s v ≤ 1000000 := by
  have h : ∀ s, ∃ d : Nat → Nat, gd_ (ET_ T n m1_) s d ∧ ∀ v, d v ≤ 1000000 := fun s => by
    obtain ⟨d, h1, h2⟩ := gd_ex (E := ET_ T n m1_) (s := s) ET_ed
    exact ⟨d, h1, fun v => by rcases h2 v with q | ⟨q, -⟩ <;> omega⟩
  exact Classical.axiomOfChoice h
theorem dw_ex (T : Nat → Int32) (n : Nat) : ∃ d : Nat → Nat → Nat, ∀ b, gd_ (ET_ T n (nI b)) (cl_ (gT_ T b 1)) (d b) ∧ ∀ v, d b v ≤ 1000000 := by
  have h : ∀ b, ∃ d : Nat → Nat, gd_ (ET_ T n (nI b)) (cl_ (gT_ T b 1)) d ∧ ∀ v, d v ≤ 1000000 := fun b => by
    obtain ⟨d, h1, h2⟩ := gd_ex (E := ET_ T n (nI b)) (s := cl_ (gT_ T b 1)) ET_ed
    exact ⟨d, h1, fun v => by rcases h2 v with q | ⟨q, -⟩ <;> omega⟩
  exact Classical.axiomOfChoice h
theorem far_lt {x : Nat} (hx : x ≤ 1000000) : nI x < nI 1000000 ↔ x < 1000000 := nI_ltI (by omega) (by decide)
theorem far_le {x : Nat} (hx : x ≤ 1000000) : nI 1000000 ≤ nI x ↔ ¬ x < 1000000 := by
  rw [nI_leI (by decide) (by omega)]
  omega
theorem mq_step {l : Nat → Nat} {M : Nat → Nat → Int32} {n : Nat} {d : Nat → Nat → Nat} (hl : ov_L 11 l h) (hT : M 1 0 = nI n) (hn : n ≤ 10) (I : I_ (M 1) n) (hd : ∀ s, gd_ (ET_ (M 1) n m1_) s (d s) ∧ ∀ v, d s v ≤ 1000000) (a b : Int32) : ∃ M', F_X6_stepsTo (mv_ l M h) (l 0) a b = some (qv_ (q_step (M 1) n d a b), mv_ l M' h) ∧ NB_ M M' ∧ M' 0 5 = qk_ (q_step (M 1) n d a b) := by
  unfold F_X6_stepsTo F_X6_stepsTo_B19 F_X6_stepsTo_B20 q_step
  simp only [m_isL, Option.bind_some, kj_l0, kj_i0, kj_i1, bI_n, m5_e hl, m5_g hl, kk_m2, kj_i2]
  by_cases ha : In_ (nI 0) (nI 7) a = true
  · by_cases hb : In_ (nI 0) (nI 7) b = true
    · obtain ⟨p, hp, rfl⟩ := In_of (by decide) ha
      obtain ⟨q, hq, rfl⟩ := In_of (by decide) hb
      obtain ⟨f, e, hf⟩ := m_lays (M := m5_ M (nI 0)) (h := h) (n := n) (s := p) (d := d p) hl (by rw [m5_1]; exact hT) hn (by rw [m5_1]; exact I) (.inl rfl) (show p < 8 by omega) (by rw [m5_1]; exact (hd p).1)
      have hfar := far_le ((hd p).2 q)
      rw [if_neg (fun z => z ha), if_neg (fun z => z hb), if_pos ha, if_pos hb, if_pos (Int32.le_refl _), mv_is hl, Option.bind_some, e, Option.bind_some, mr_15 hl, Option.bind_some, ma_6 hl (show q < 8 by omega), yr_at, hf q (by omega), Option.bind_some, cl_nI (show p < 2 ^ 31 by omega), cl_nI (show q < 2 ^ 31 by omega)]
      have nb : NB_ M (yr_ (m5_ M (nI 0)) 6 f) := ⟨fun k h5 h7 h8 => by rw [yr_ne (by decide)]; exact w2_n2 (by omega), fun a h0 h2 h3 h6 => by rw [yr_ne h6, m5_r h0]⟩
      by_cases hc : d p q < 1000000
      · rw [if_neg (fun z => (hfar.mp z) hc), if_pos hc, Option.bind_some, ma_6 hl (show q < 8 by omega), yr_at, hf q (by omega), Option.bind_some]
        exact ⟨_, rfl, nb, by rw [yr_ne (by decide)]; exact w2_at⟩
      · rw [if_pos (hfar.mpr hc), if_neg hc, mv_is hl, Option.bind_some, m5_n hl, Option.bind_some]
        refine ⟨_, rfl, ⟨fun k h5 h7 h8 => ?_, fun a h0 h2 h3 h6 => ?_⟩, w5_5⟩
        · show w2_ _ 0 5 _ 0 k = _
          rw [w2_n2 (by omega)]
          exact nb.1 k h5 h7 h8
        · rw [m5_r h0]
          exact nb.2 a h0 h2 h3 h6
    · rw [if_neg (fun z => z ha), if_pos hb, if_pos ha, if_neg hb, if_neg (by decide)]
      exact ⟨_, rfl, NB_m5, w5_5⟩
  · rw [if_pos ha, if_neg ha, if_neg (by decide)]
    exact ⟨_, rfl, NB_m5, w5_5⟩
theorem mq_way {l : Nat → Nat} {M : Nat → Nat → Int32} {n : Nat} {d : Nat → Nat → Nat} (hl : ov_L 11 l h) (hT : M 1 0 = nI n) (hn : n ≤ 10) (I : I_ (M 1) n) (hd : ∀ b, gd_ (ET_ (M 1) n (nI b)) (cl_ (gT_ (M 1) b 1)) (d b) ∧ ∀ v, d b v ≤ 1000000) (a b : Int32) : ∃ M', F_X6_wayTo (mv_ l M h) (l 0) a b = some (qv_ (q_way d a b), mv_ l M' h) ∧ NB_ M M' ∧ M' 0 5 = qk_ (q_way d a b) ∧ M' 1 = M 1 := by
  unfold F_X6_wayTo F_X6_wayTo_B19 F_X6_wayTo_B20 q_way
  simp only [m_isL, m_isG, Option.bind_some, kj_l0, kj_i0, kj_i1, bI_n, m5_e hl, m5_g hl, kk_m2, kj_i2]
  by_cases ha : In_ (nI 0) (nI 1) a = true
  · by_cases hb : In_ (nI 0) (nI 7) b = true
    · obtain ⟨p, hp, rfl⟩ := In_of (by decide) ha
      obtain ⟨q, hq, rfl⟩ := In_of (by decide) hb
      obtain ⟨s, hs, es, -⟩ := I.2.2.1 p (by omega)
      have hd2 := hd p
      rw [es, cl_nI (by omega)] at hd2
      obtain ⟨f, e, hf⟩ := m_lays (M := m5_ M (nI 0)) (h := h) (n := n) (s := s) (d := d p) hl (by rw [m5_1]; exact hT) hn (by rw [m5_1]; exact I) (.inr ⟨p, by omega, rfl⟩) hs (by rw [m5_1]; exact hd2.1)
      have hfar := far_le (hd2.2 q)
      rw [if_neg (fun z => z ha), if_neg (fun z => z hb), if_pos ha, if_pos hb, if_pos (Int32.le_refl _), mv_is hl, Option.bind_some, m_gv hl (show 12 + 5 * p + 1 < 110 by omega), Option.bind_some, Option.bind_some, m5_1, es, e, Option.bind_some, mr_15 hl, Option.bind_some, ma_6 hl (show q < 8 by omega), yr_at, hf q (by omega), Option.bind_some, cl_nI (show p < 2 ^ 31 by omega), cl_nI (show q < 2 ^ 31 by omega)]
      have nb : NB_ M (yr_ (m5_ M (nI 0)) 6 f) := ⟨fun k h5 h7 h8 => by rw [yr_ne (by decide)]; exact w2_n2 (by omega), fun a h0 h2 h3 h6 => by rw [yr_ne h6, m5_r h0]⟩
      by_cases hc : d p q < 1000000
      · rw [if_neg (fun z => (hfar.mp z) hc), if_pos hc, Option.bind_some, ma_6 hl (show q < 8 by omega), yr_at, hf q (by omega), Option.bind_some]
        exact ⟨_, rfl, nb, by rw [yr_ne (by decide)]; exact w2_at, by rw [yr_ne (by decide), m5_1]⟩
      · rw [if_pos (hfar.mpr hc), if_neg hc, mv_is hl, Option.bind_some, m5_n hl, Option.bind_some]
        refine ⟨_, rfl, ⟨fun k h5 h7 h8 => ?_, fun a h0 h2 h3 h6 => ?_⟩, w5_5, by rw [m5_1, yr_ne (by decide), m5_1]⟩
        · show w2_ _ 0 5 _ 0 k = _
          rw [w2_n2 (by omega)]
          exact nb.1 k h5 h7 h8
        · rw [m5_r h0]
          exact nb.2 a h0 h2 h3 h6
    · rw [if_neg (fun z => z ha), if_pos hb, if_pos ha, if_neg hb, if_neg (by decide)]
      exact ⟨_, rfl, NB_m5, w5_5, m5_1⟩
  · rw [if_pos ha, if_neg ha, if_neg (by decide)]
    exact ⟨_, rfl, NB_m5, w5_5, m5_1⟩
end W6

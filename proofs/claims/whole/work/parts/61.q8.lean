section W8
variable {A : Nat → Nat} {GG : Nat → Nat → Nat} {Z : Nat → Nat → Int32} {XL : Nat → Int64} {cap : Nat} {K : Nat → mm_Ce} {h h1 : mm_S}
def rh_ (d : Nat → Nat) (m : Nat) : Int32 := fo_ (fun v x => if d v < 1000000 then x ||| (nI 1 <<< (nI v &&& 31)) else x) (nI 0) m
def q_reach (d : Nat → Nat → Nat) (a : Int32) : Int32 ⊕ Nat := if In_ (nI 0) (nI 1) a = true then .inl (rh_ (d (cl_ a)) 8) else .inr 0
def exJ_ : List String := ["java/lang/IndexOutOfBoundsException"]
theorem qb_reach {d : Nat → Nat → Nat} {a : Int32} : qb_ exJ_.length (q_reach d a) := by
  unfold q_reach
  intro i
  repeat' split
  all_goals (intro e; cases e; try decide)
theorem x_reach (hW : WD_ A GG Z XL cap K h) {n : Nat} (R : R_ (GG 0) (wt_ Z 0) (Z 214) n) (I : I_ (Z 214) n) {d : Nat → Nat → Nat} (hd : ∀ b, gd_ (ET_ (Z 214) n (nI b)) (cl_ (gT_ (Z 214) b 1)) (d b) ∧ ∀ v, d b v ≤ 1000000) (a : Int32) : (∃ y', F_X5_reach h (A 209) a = some (qo_ exJ_ (q_reach d a), yv_ (ly_ A) y' h)) ∨ F_X5_reach h (A 209) a = some (qo_ exJ_ (q_reach d a), h) := by
  unfold F_X5_reach q_reach
  rw [c_isG, Option.bind_some]
  by_cases ha : In_ (nI 0) (nI 1) a = true
  · left
    obtain ⟨p, hp, rfl⟩ := In_of (by decide) ha
    obtain ⟨st, hst, es, eo⟩ := I.2.2.1 p (by omega)
    have hd2 := hd p
    rw [es, cl_nI (by omega)] at hd2
    obtain ⟨hly, ey⟩ := WD_y hW
    obtain ⟨g1, g2, g3⟩ := g_at hW R (show p < 2 by omega)
    obtain ⟨f, f2, e, hf⟩ := w_dijk (y := yw_ Z) (x := nI p) (WD_Dy hW (show 0 < 11 by decide)) R I hst (.inr eo) hd2.1
    rw [ey] at e
    have eis := yv_is (y := yw_ Z) hly
    rw [ey] at eis
    refine ⟨y2_ (yw_ Z) f f2, ?_⟩
    have W1 := WD_yp (y' := y2_ (yw_ Z) f f2) hW
    have r0 : fx_gR (yv_ (ly_ A) (y2_ (yw_ Z) f f2) h) (A 176) 4 0 = some (A (176 + 1)) := yv_r0 hly
    have key := lp_o (n := 8) (f := fun m i x => F_X5_reach_L45 m (A 209) x (nI i) (yv_ (ly_ A) (y2_ (yw_ Z) f f2) h)) (fun v x => if d p v < 1000000 then x ||| (nI 1 <<< (nI v &&& 31)) else x) (fun m i x hi => by
      rw [F_X5_reach_L45, kk_b8, if_neg (nI_ge hi (by decide)), X_way W1, Option.bind_some, r0, Option.bind_some, y_len hW (.inl rfl) hi, y2_1, hf i hi, Option.bind_some, nI_s, kj_i1]
      by_cases q : d p i < 1000000
      · rw [if_neg (fun z => (far_le (hd2.2 i)).mp z q), if_pos q]
      · rw [if_pos ((far_le (hd2.2 i)).mpr q), if_neg q]) (nI 0) 1000 (by omega)
    rw [if_pos (fun z => bI_0.mp z ha), if_pos ha, X_way hW, Option.bind_some, X_now hW, Option.bind_some, Option.bind_some, g1, Option.bind_some, g2, Option.bind_some, g3, Option.bind_some, es, show fx_is h (A 176) 4 = some () from eis, Option.bind_some, show F_X4_goNearestFirst h (A 176) (A 0) (nI p) (nI st) = _ from e, Option.bind_some, show ki 0 = nI 0 from rfl, key, show 1000 - 8 = 991 + 1 from rfl, F_X5_reach_L45, kk_b8, if_pos (Int32.le_refl _), Option.bind_some, cl_nI (show p < 2 ^ 31 by omega)]
    rfl
  · right
    rw [if_neg (fun z => z (bI_0.mpr ha)), if_neg ha]
    rfl
theorem mq_reach {l : Nat → Nat} {M : Nat → Nat → Int32} {n : Nat} {d : Nat → Nat → Nat} (hl : ov_L 11 l h) (hT : M 1 0 = nI n) (hn : n ≤ 10) (I : I_ (M 1) n) (hd : ∀ b, gd_ (ET_ (M 1) n (nI b)) (cl_ (gT_ (M 1) b 1)) (d b) ∧ ∀ v, d b v ≤ 1000000) (a : Int32) : ∃ M', F_X6_reach (mv_ l M h) (l 0) a = some (qv_ (q_reach d a), mv_ l M' h) ∧ NB_ M M' ∧ M' 0 5 = qk_ (q_reach d a) := by
  unfold F_X6_reach F_X6_reach_B13 q_reach
  simp only [m_isG, Option.bind_some, kj_l0, kj_i0, kj_i1, bI_n, m5_e hl, m5_g hl]
  by_cases ha : In_ (nI 0) (nI 1) a = true
  · obtain ⟨p, hp, rfl⟩ := In_of (by decide) ha
    obtain ⟨s, hs, es, -⟩ := I.2.2.1 p (by omega)
    have hd2 := hd p
    rw [es, cl_nI (by omega)] at hd2
    obtain ⟨f, e, hf⟩ := m_lays (M := m5_ M (nI 0)) (h := h) (n := n) (s := s) (d := d p) hl (by rw [m5_1]; exact hT) hn (by rw [m5_1]; exact I) (.inr ⟨p, by omega, rfl⟩) hs (by rw [m5_1]; exact hd2.1)
    have key := lp_o (n := 8) (f := fun m i x => F_X6_reach_L40 m (l 0) x (nI i) (mv_ l (yr_ (m5_ M (nI 0)) 6 f) h)) (fun v x => if d p v < 1000000 then x ||| (nI 1 <<< (nI v &&& 31)) else x) (fun m i x hi => by
      rw [F_X6_reach_L40, kk_b8, if_neg (nI_ge hi (by decide)), mr_15 hl, Option.bind_some, ma_6 hl hi, yr_at, hf i hi, Option.bind_some, nI_s, kj_i1, kj_i0, show x ||| nI 0 = x from Int32.or_zero]
      by_cases q : d p i < 1000000
      · rw [if_neg (fun z => (far_le (hd2.2 i)).mp z q), if_pos q]
      · rw [if_pos ((far_le (hd2.2 i)).mpr q), if_neg q]) (nI 0) 1000 (by omega)
    rw [if_neg (fun z => z ha), if_pos ha, if_pos (Int32.le_refl _), mv_is hl, Option.bind_some, m_gv hl (show 12 + 5 * p + 1 < 110 by omega), Option.bind_some, Option.bind_some, m5_1, es, e, Option.bind_some, key, show 1000 - 8 = 991 + 1 from rfl, F_X6_reach_L40, kk_b8, if_pos (Int32.le_refl _), Option.bind_some, cl_nI (show p < 2 ^ 31 by omega)]
    exact ⟨_, rfl, ⟨fun k h5 h7 h8 => by rw [yr_ne (by decide)]; exact w2_n2 (by omega), fun a h0 h2 h3 h6 => by rw [yr_ne h6, m5_r h0]⟩, by rw [yr_ne (by decide)]; exact w2_at⟩
  · rw [if_pos ha, if_neg ha, if_neg (by decide)]
    exact ⟨_, rfl, NB_m5, w5_5⟩
theorem o_reach (hs : ST_ A K h) (a : Int32) : RS_ A K exJ_ (F_X5_reach h (A 209) a) (fun h1 => F_X6_reach h1 (A 213) a) := by
  obtain ⟨GG, Z, XL, cap, hW, s⟩ := hs
  obtain ⟨n, hn, hT, R, I⟩ := TR_n s.1
  obtain ⟨d, hd⟩ := dw_ex (Z 214) n
  exact q_ways hW s (x_reach hW R I hd a) (fun H hl => mq_reach (M := mw_ Z) hl hT hn I hd a) qb_reach
/-! the first staircase of a way -/
def fs_ (T : Nat → Int32) (n : Nat) (b st : Nat) (d : Nat → Nat) : Option Nat := (List.range n).find? (fun j => E_ (sT_ T j) (nI st) && decide (cost_ (sT_ T j) (nI b) + nI (d (oc_ T (nI st) j)) = nI (d st)))
def q_first (T : Nat → Int32) (n : Nat) (d : Nat → Nat → Nat → Nat) (a x : Int32) : Int32 ⊕ Nat := if In_ (nI 0) (nI 1) a = true then (if In_ (nI 0) (nI 7) x = true then (if gT_ T (cl_ a) 1 = x ∨ oT_ T (cl_ x) = nI 2 ∨ ¬ d (cl_ a) (cl_ x) (cl_ (gT_ T (cl_ a) 1)) < 1000000 then .inr 1 else match fs_ T n (cl_ a) (cl_ (gT_ T (cl_ a) 1)) (d (cl_ a) (cl_ x)) with
  | some j => .inl (nI j)
  | none => .inr 1) else .inr 0) else .inr 0
theorem qb_first {T : Nat → Int32} {n : Nat} {d : Nat → Nat → Nat → Nat} {a x : Int32} : qb_ exN_.length (q_first T n d a x) := by
  unfold q_first
  intro i
  repeat' split
  all_goals (intro e; cases e; try decide)
theorem df_ex (T : Nat → Int32) (n : Nat) : ∃ d : Nat → Nat → Nat → Nat, ∀ b s, gd_ (ET_ T n (nI b)) s (d b s) ∧ ∀ v, d b s v ≤ 1000000 := by
  have h : ∀ b, ∃ d : Nat → Nat → Nat, ∀ s, gd_ (ET_ T n (nI b)) s (d s) ∧ ∀ v, d s v ≤ 1000000 := fun b => by
    have h2 : ∀ s, ∃ d : Nat → Nat, gd_ (ET_ T n (nI b)) s d ∧ ∀ v, d v ≤ 1000000 := fun s => by
      obtain ⟨d, h1, h2⟩ := gd_ex (E := ET_ T n (nI b)) (s := s) ET_ed
      exact ⟨d, h1, fun v => by rcases h2 v with q | ⟨q, -⟩ <;> omega⟩
    exact Classical.axiomOfChoice h2
  exact Classical.axiomOfChoice h
theorem x_first (hW : WD_ A GG Z XL cap K h) {n : Nat} (R : R_ (GG 0) (wt_ Z 0) (Z 214) n) (I : I_ (Z 214) n) {d : Nat → Nat → Nat → Nat} (hd : ∀ b s, gd_ (ET_ (Z 214) n (nI b)) s (d b s) ∧ ∀ v, d b s v ≤ 1000000) (a x : Int32) : (∃ y', F_X5_first h (A 209) a x = some (qo_ exN_ (q_first (Z 214) n d a x), yv_ (ly_ A) y' h)) ∨ F_X5_first h (A 209) a x = some (qo_ exN_ (q_first (Z 214) n d a x), h) := by
  have hn := R_n R
  unfold F_X5_first q_first
  rw [c_isG, Option.bind_some]
  by_cases ha : In_ (nI 0) (nI 1) a = true
  · by_cases hb : In_ (nI 0) (nI 7) x = true
    · left
      obtain ⟨p, hp, rfl⟩ := In_of (by decide) ha
      obtain ⟨q, hq, rfl⟩ := In_of (by decide) hb
      obtain ⟨st, hst, es, eo⟩ := I.2.2.1 p (by omega)
      obtain ⟨hly, ey⟩ := WD_y hW
      obtain ⟨g1, g2, g3⟩ := g_at hW R (show p < 2 by omega)
      have eis := yv_is (y := yw_ Z) hly
      rw [ey] at eis
      have hD := WD_Dy hW (show 0 < 11 by decide)
      rw [if_neg (fun z => bI_0.mp z ha), c_isL, Option.bind_some, if_pos (fun z => bI_0.mp z hb), if_pos ha, if_pos hb, X_way hW, Option.bind_some, X_now hW, Option.bind_some, show fx_is h (A 176) 4 = some () from eis, Option.bind_some, cl_nI (show p < 2 ^ 31 by omega), cl_nI (show q < 2 ^ 31 by omega), es, cl_nI (show st < 2 ^ 31 by omega)]
      unfold F_X4_firstStair
      rw [g1, Option.bind_some, g2, Option.bind_some, g3, Option.bind_some, show fx_is h (A 176) 4 = some () from eis, Option.bind_some, es]
      by_cases hop : oT_ (Z 214) q = nI 2
      · obtain ⟨f, f2, e, hf⟩ := w_dijk0 (y := yw_ Z) (x := nI p) hD R (show q < 8 by omega) (fun z => z.elim (nb_m1 (show p < 2 by omega)) (fun z2 => z2 hop))
        rw [ey] at e
        refine ⟨y2_ (yw_ Z) f f2, ?_⟩
        rw [show F_X4_goNearestFirst h (A 176) (A 0) (nI p) (nI q) = _ from e, Option.bind_some, if_pos (show nI st = nI q ∨ oT_ (Z 214) q = nI 2 ∨ ¬ d p q st < 1000000 from .inr (.inl hop))]
        by_cases hst2 : nI st = nI q
        · rw [if_pos hst2, Option.bind_some]
          rfl
        · have r0 : fx_gR (yv_ (ly_ A) (y2_ (yw_ Z) f f2) h) (A 176) 4 0 = some (A (176 + 1)) := yv_r0 hly
          rw [if_neg hst2, r0, Option.bind_some, y_len hW (.inl rfl) hst, y2_1, hf st hst, Option.bind_some, if_neg (by decide), Option.bind_some]
          rfl
      · obtain ⟨hd1, hd3⟩ := hd p q
        obtain ⟨f, f2, e, hf⟩ := w_dijk (y := yw_ Z) (x := nI p) hD R I (show q < 8 by omega) (.inr hop) hd1
        rw [ey] at e
        refine ⟨y2_ (yw_ Z) f f2, ?_⟩
        rw [show F_X4_goNearestFirst h (A 176) (A 0) (nI p) (nI q) = _ from e, Option.bind_some]
        by_cases hst2 : nI st = nI q
        · rw [if_pos hst2, Option.bind_some, if_pos (show nI st = nI q ∨ oT_ (Z 214) q = nI 2 ∨ ¬ d p q st < 1000000 from .inl hst2)]
          rfl
        · have r0 : fx_gR (yv_ (ly_ A) (y2_ (yw_ Z) f f2) h) (A 176) 4 0 = some (A (176 + 1)) := yv_r0 hly
          rw [if_neg hst2, r0, Option.bind_some, y_len hW (.inl rfl) hst, y2_1, hf st hst, Option.bind_some]
          by_cases hc : d p q st < 1000000
          · rw [if_pos ((far_lt (hd3 st)).mpr hc), if_neg (show ¬ (nI st = nI q ∨ oT_ (Z 214) q = nI 2 ∨ ¬ d p q st < 1000000) from fun z => z.elim hst2 (fun z => z.elim hop (fun z => z hc)))]
            have hD1 : Dy_ (ly_ A) (lt_ A 0) (GG 0) (wt_ Z 0) h := hD
            have key := lp_d (n := n) (f := fun m i => F_X4_firstStair_L41 m (A 176) (A 0) (nI p) (nI st) (nI i) (yv_ (ly_ A) (y2_ (yw_ Z) f f2) h)) (fun j => E_ (sT_ (Z 214) j) (nI st) && decide (cost_ (sT_ (Z 214) j) (nI p) + nI (d p q (oc_ (Z 214) (nI st) j)) = nI (d p q st))) (fun i => .inl (nI i, yv_ (ly_ A) (y2_ (yw_ Z) f f2) h)) (fun m i hi => by
              have y1 := Y_n (y := y2_ (yw_ Z) f f2) hD1 R
              have y2 := Y_r2 (y := y2_ (yw_ Z) f f2) hD1
              have y3 := Y_aS (y := y2_ (yw_ Z) f f2) hD1 R hi
              have y4 := Y_is (y := y2_ (yw_ Z) f f2) hD1 R hi
              have y5 := Y_E (y := y2_ (yw_ Z) f f2) hD1 R hi (nI st)
              have y6 := Y_cost (y := y2_ (yw_ Z) f f2) hD1 R hi (nI p)
              have y7 := Y_oth (y := y2_ (yw_ Z) f f2) hD1 R hi (nI st)
              rw [oth_nI I hi] at y7
              have hoc := oc_lt I hi (nI st)
              rw [F_X4_firstStair_L41, show fx_gI (yv_ (ly_ A) (y2_ (yw_ Z) f f2) h) (A 0) 3 3 = _ from y1, Option.bind_some, if_neg (nI_ge hi (by omega)), show fx_gR (yv_ (ly_ A) (y2_ (yw_ Z) f f2) h) (A 0) 3 2 = _ from y2, Option.bind_some, y3, Option.bind_some, y4, Option.bind_some, y5, Option.bind_some, nI_s]
              by_cases he : E_ (sT_ (Z 214) i) (nI st) = true
              · rw [if_neg (fun z => bI_0.mp z he), Option.bind_some, y6, Option.bind_some, r0, Option.bind_some, Option.bind_some, y7, Option.bind_some, y_len hW (.inl rfl) hoc, y2_1, hf _ hoc, Option.bind_some, Option.bind_some, y_len hW (.inl rfl) hst, y2_1, hf st hst, Option.bind_some]
                by_cases hq2 : cost_ (sT_ (Z 214) i) (nI p) + nI (d p q (oc_ (Z 214) (nI st) i)) = nI (d p q st)
                · rw [if_neg (fun z => z hq2), if_pos (by simp [he, hq2])]
                · rw [if_pos hq2, if_neg (by simp [hq2])]
              · rw [if_pos (bI_0.mpr he), if_neg (by simp [he])]) 1000 (by omega)
            rw [show ki 0 = nI 0 from rfl, key]
            unfold fs_
            cases ef : (List.range n).find? (fun j => E_ (sT_ (Z 214) j) (nI st) && decide (cost_ (sT_ (Z 214) j) (nI p) + nI (d p q (oc_ (Z 214) (nI st) j)) = nI (d p q st))) with
            | some j =>
              have hj := List.mem_range.mp (List.mem_of_find?_eq_some ef)
              have hne : ¬ nI j = m1_ := fun q => absurd (congrArg Int32.toInt q) (by rw [nI_toInt (by omega)]; show ¬ (j : Int) = -1; omega)
              dsimp only
              rw [Option.bind_some]
              dsimp only
              rw [Option.bind_some, kk_m2, if_pos hne]
              rfl
            | none =>
              dsimp only
              have y1 := Y_n (y := y2_ (yw_ Z) f f2) hD1 R
              rw [show 1000 - n = (999 - n) + 1 from by omega, F_X4_firstStair_L41, show fx_gI (yv_ (ly_ A) (y2_ (yw_ Z) f f2) h) (A 0) 3 3 = _ from y1, Option.bind_some, if_pos (Int32.le_refl _), Option.bind_some]
              dsimp only
              rw [Option.bind_some]
              rfl
          · rw [if_neg (fun z => hc ((far_lt (hd3 st)).mp z)), if_pos (show nI st = nI q ∨ oT_ (Z 214) q = nI 2 ∨ ¬ d p q st < 1000000 from .inr (.inr hc)), Option.bind_some]
            rfl
    · right
      rw [if_neg (fun z => bI_0.mp z ha), c_isL, Option.bind_some, if_neg (fun z => z (bI_0.mpr hb)), if_pos ha, if_neg hb]
      rfl
  · right
    rw [if_pos (bI_0.mpr ha), if_neg ha]
    rfl
theorem gd_pos {E : Nat → Nat → Nat → Prop} {s v : Nat} {d : Nat → Nat} (hd : gd_ E s d) (he : ed_ E) (hv : v < 8) (hs : ¬ v = s) : 1 ≤ d v := by
  by_cases hf : d v < 1000000
  · obtain ⟨u, c, h1, h2, h3⟩ := gd_pred hd he hv hf hs
    omega
  · omega
theorem mq_first {l : Nat → Nat} {M : Nat → Nat → Int32} {n : Nat} {d : Nat → Nat → Nat → Nat} (hl : ov_L 11 l h) (hT : M 1 0 = nI n) (hn : n ≤ 10) (I : I_ (M 1) n) (hd : ∀ b s, gd_ (ET_ (M 1) n (nI b)) s (d b s) ∧ ∀ v, d b s v ≤ 1000000) (a x : Int32) : ∃ M', F_X6_first (mv_ l M h) (l 0) a x = some (qv_ (q_first (M 1) n d a x), mv_ l M' h) ∧ NB_ M M' ∧ M' 0 5 = qk_ (q_first (M 1) n d a x) := by
  obtain ⟨M1, ew, nb1, k1, e1⟩ := mq_way (d := fun b => d b (cl_ (gT_ (M 1) b 1))) (h := h) hl hT hn I (fun b => hd b _) a x
  unfold F_X6_first
  rw [mv_is hl, Option.bind_some, ew, Option.bind_some, mg_5 hl, Option.bind_some, k1]
  unfold q_way q_first
  by_cases ha : In_ (nI 0) (nI 1) a = true
  · by_cases hb : In_ (nI 0) (nI 7) x = true
    · obtain ⟨p, hp, rfl⟩ := In_of (by decide) ha
      obtain ⟨q, hq, rfl⟩ := In_of (by decide) hb
      obtain ⟨st, hst, es, eo⟩ := I.2.2.1 p (by omega)
      have k1' := k1
      unfold q_way at k1'
      rw [if_pos ha, if_pos hb, cl_nI (show p < 2 ^ 31 by omega), cl_nI (show q < 2 ^ 31 by omega)] at k1'
      rw [if_pos ha, if_pos hb, if_pos ha, if_pos hb, cl_nI (show p < 2 ^ 31 by omega), cl_nI (show q < 2 ^ 31 by omega)]
      simp only [es, cl_nI (show st < 2 ^ 31 by omega)] at k1' ⊢
      have hfin : ∀ v : Int32 × mm_S, ∃ M', some (nI 0, mv_ l (m5_ M1 (nI 2)) h) = some (qv_ (.inr 1), mv_ l M' h) ∧ NB_ M M' ∧ M' 0 5 = qk_ (.inr 1) := fun _ => by
        refine ⟨_, rfl, ⟨fun k h5 h7 h8 => ?_, fun a h0 h2 h3 h6 => ?_⟩, w5_5⟩
        · show w2_ _ 0 5 _ 0 k = _
          rw [w2_n2 (by omega)]
          exact nb1.1 k h5 h7 h8
        · rw [m5_r h0]
          exact nb1.2 a h0 h2 h3 h6
      by_cases hc : d p st q < 1000000
      · rw [if_pos hc] at k1' ⊢
        have hopq : op_ (M 1) (nI p) q := so_op (.inr eo) (hd p st).1.2.2 (by omega) hc
        have hoq : ¬ oT_ (M 1) q = nI 2 := hopq.resolve_left (nb_m1 (by omega))
        have hsym := gd_sym ET_ed ET_sym hst (show q < 8 by omega) (hd p st).1 (hd p q).1
        have hle : qk_ (.inl (nI (d p st q))) ≤ 0 := Int32.le_refl _
        rw [if_pos hle]
        by_cases hsq : st = q
        · have h0 : d p st q = 0 := by rw [← hsq]; exact (hd p st).1.1
          rw [h0, if_neg (show ¬ qv_ (.inl (nI 0)) ≠ 0 from fun z => z rfl), if_pos (show nI st = nI q ∨ oT_ (M 1) q = nI 2 ∨ ¬ d p q st < 1000000 from .inl (by rw [hsq])), mv_is hl, Option.bind_some, kj_i2, m5_n hl, Option.bind_some]
          exact hfin (nI 0, h)
        · have hpos := gd_pos (hd p st).1 ET_ed (show q < 8 by omega) (fun z => hsq z.symm)
          have hne : ¬ nI (d p st q) = 0 := fun z => by
            have z2 : nI (d p st q) = nI 0 := z
            rw [nI_eq (by omega) (by decide)] at z2
            omega
          rw [if_pos (show qv_ (.inl (nI (d p st q))) ≠ 0 from hne), if_neg (show ¬ (nI st = nI q ∨ oT_ (M 1) q = nI 2 ∨ ¬ d p q st < 1000000) from fun z => z.elim (fun z => hsq ((nI_eq (by omega) (by omega)).mp z)) (fun z => z.elim hoq (fun z => z (by omega))))]
          obtain ⟨f, e, hf⟩ := m_lays (M := M1) (h := h) (n := n) (s := q) (d := d p q) hl (by rw [e1]; exact hT) hn (by rw [e1]; exact I) (.inr ⟨p, by omega, rfl⟩) (by omega) (by rw [e1]; exact (hd p q).1)
          have hM1 : yr_ M1 6 f 1 = M 1 := by rw [yr_ne (by decide), e1]
          rw [mv_is hl, Option.bind_some, e, Option.bind_some, mv_is hl, Option.bind_some, kj_i1, m_gv hl (show 12 + 5 * p + 1 < 110 by omega), Option.bind_some, hM1, es]
          have nb2 : NB_ M (yr_ M1 6 f) := ⟨fun k h5 h7 h8 => by rw [yr_ne (by decide)]; exact nb1.1 k h5 h7 h8, fun a h0 h2 h3 h6 => by rw [yr_ne h6]; exact nb1.2 a h0 h2 h3 h6⟩
          have key := lp_d (n := n) (f := fun m i => F_X6_first_L43 m (l 0) (nI p) (nI (d p st q)) (nI st) (nI i) (mv_ l (yr_ M1 6 f) h)) (fun j => E_ (sT_ (M 1) j) (nI st) && decide (cost_ (sT_ (M 1) j) (nI p) + nI (d p q (oc_ (M 1) (nI st) j)) = nI (d p q st))) (fun i => .inl (nI i, mv_ l (yr_ M1 6 f) h)) (fun m i hi => by
            have hi10 : i < 10 := by omega
            have hoc := oc_lt I hi (nI st)
            rw [F_X6_first_L43, mr_0 hl, Option.bind_some, kj_i0, m_at hl (by decide), Option.bind_some, hM1, hT, if_neg (nI_ge hi (by omega)), mv_is hl, Option.bind_some, m_to hl hi10, hM1, Option.bind_some, nI_s]
            by_cases he : E_ (sT_ (M 1) i) (nI st) = true
            · have hac := m_ac (M := yr_ M1 6 f) (h := h) hl hi10 (x := nI st) (by rw [hM1]; exact he)
              rw [hM1, oth_nI I hi] at hac
              have hbr := m_br (M := yr_ M1 6 f) (h := h) hl hi10 (nb_m1 (show p < 2 by omega))
              rw [hM1] at hbr
              rw [if_neg (fun z => bI_0.mp z he), Option.bind_some, hac, Option.bind_some, Option.bind_some, m_ow hl hoc, hM1, Option.bind_some, kj_i2]
              by_cases ho : oT_ (M 1) (oc_ (M 1) (nI st) i) = nI 2
              · have hfar : d p q (oc_ (M 1) (nI st) i) = 1000000 := by
                  rcases (hd p q).1.2.2 _ hoc with z | ⟨z, -⟩
                  · exact z
                  · exact absurd ((so_op (.inr hoq) (hd p q).1.2.2 hoc z).resolve_left (nb_m1 (by omega))) (fun z2 => z2 ho)
                obtain ⟨c, c1, c2, ec⟩ := cost_n (I.2.2.2.2.1 i hi) (nI p)
                rw [if_pos ho, if_neg]
                rw [hfar, ec, nI_add]
                simp only [Bool.and_eq_true, decide_eq_true_eq]
                rintro ⟨-, z⟩
                rw [nI_eq (by omega) (by have := (hd p q).2 st; omega)] at z
                omega
              · rw [if_neg ho, Option.bind_some, hbr, Option.bind_some, mr_15 hl, Option.bind_some, Option.bind_some, Option.bind_some, ma_6 hl hoc, yr_at, hf _ hoc, Option.bind_some, hsym]
                by_cases hq2 : cost_ (sT_ (M 1) i) (nI p) + nI (d p q (oc_ (M 1) (nI st) i)) = nI (d p q st)
                · rw [if_neg (fun z => z hq2), if_pos (by simp [he, hq2])]
                · rw [if_pos hq2, if_neg (by simp [hq2])]
            · rw [if_pos (bI_0.mpr he), if_neg (by simp [he])]) 1000 (by omega)
          rw [show qv_ (.inl (nI (d p st q))) = nI (d p st q) from rfl, show ki 0 = nI 0 from rfl, key]
          unfold fs_
          cases ef : (List.range n).find? (fun j => E_ (sT_ (M 1) j) (nI st) && decide (cost_ (sT_ (M 1) j) (nI p) + nI (d p q (oc_ (M 1) (nI st) j)) = nI (d p q st))) with
          | some j =>
            refine ⟨_, rfl, nb2, ?_⟩
            rw [yr_ne (by decide), k1']
            rfl
          | none =>
            dsimp only
            rw [show 1000 - n = (999 - n) + 1 from by omega, F_X6_first_L43, mr_0 hl, Option.bind_some, kj_i0, m_at hl (by decide), Option.bind_some, hM1, hT, if_pos (Int32.le_refl _), Option.bind_some]
            dsimp only
            rw [mv_is hl, Option.bind_some, kj_i2, m5_n hl, Option.bind_some]
            refine ⟨_, rfl, ⟨fun k h5 h7 h8 => ?_, fun a h0 h2 h3 h6 => ?_⟩, w5_5⟩
            · show w2_ _ 0 5 _ 0 k = _
              rw [w2_n2 (by omega)]
              exact nb2.1 k h5 h7 h8
            · rw [m5_r h0]
              exact nb2.2 a h0 h2 h3 h6
      · rw [if_neg hc] at k1' ⊢
        rw [if_neg (show ¬ qk_ (.inr 1) ≤ 0 by decide)]
        have hcond : nI st = nI q ∨ oT_ (M 1) q = nI 2 ∨ ¬ d p q st < 1000000 := by
          by_cases hoq : oT_ (M 1) q = nI 2
          · exact .inr (.inl hoq)
          · have hsym := gd_sym ET_ed ET_sym hst (show q < 8 by omega) (hd p st).1 (hd p q).1
            exact .inr (.inr (by omega))
        rw [if_pos hcond]
        exact ⟨M1, rfl, nb1, k1'⟩
    · have k1' := k1
      unfold q_way at k1'
      rw [if_pos ha, if_neg hb] at k1'
      rw [if_pos ha, if_neg hb, if_pos ha, if_neg hb, if_neg (show ¬ qk_ (.inr 0) ≤ 0 by decide)]
      exact ⟨M1, rfl, nb1, k1'⟩
  · have k1' := k1
    unfold q_way at k1'
    rw [if_neg ha] at k1'
    rw [if_neg ha, if_neg ha, if_neg (show ¬ qk_ (.inr 0) ≤ 0 by decide)]
    exact ⟨M1, rfl, nb1, k1'⟩
theorem o_first (hs : ST_ A K h) (a x : Int32) : RS_ A K exN_ (F_X5_first h (A 209) a x) (fun h1 => F_X6_first h1 (A 213) a x) := by
  obtain ⟨GG, Z, XL, cap, hW, s⟩ := hs
  obtain ⟨n, hn, hT, R, I⟩ := TR_n s.1
  obtain ⟨d, hd⟩ := df_ex (Z 214) n
  exact q_ways hW s (x_first hW R I hd a x) (fun H hl => mq_first (M := mw_ Z) hl hT hn I hd a x) qb_first
end W8

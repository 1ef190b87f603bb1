/-! questions in the world -/
def NB_ (M M' : Nat → Nat → Int32) : Prop := (∀ k, k ≠ 5 → k ≠ 7 → k ≠ 8 → M' 0 k = M 0 k) ∧ ∀ a, a ≠ 0 → a ≠ 2 → a ≠ 3 → a ≠ 6 → M' a = M a
def qb_ (m : Nat) (q : Int32 ⊕ Nat) : Prop := ∀ i, q = .inr i → i < m
section Q3
variable {A : Nat → Nat} {GG : Nat → Nat → Nat} {Z : Nat → Nat → Int32} {XL : Nat → Int64} {cap : Nat} {K : Nat → mm_Ce} {h h1 : mm_S}
theorem NB_m5 {M : Nat → Nat → Int32} {k : Int32} : NB_ M (m5_ M k) := ⟨fun k h5 _ _ => w2_n2 (by omega), fun a h0 _ _ _ => m5_r h0⟩
theorem NB_ST (W1 : WD_ A GG Z XL cap K h1) (s : SM_ GG Z XL cap) {M' : Nat → Nat → Int32} (nb : NB_ (mw_ Z) M') : ST_ A K (mv_ (lm_ A) M' h1) ∧ fx_gI (mv_ (lm_ A) M' h1) (A 213) 6 5 = some (M' 0 5) := by
  have W2 := WD_mp (M' := M') W1
  refine ⟨⟨_, _, _, _, W2, ?_⟩, ?_⟩
  · refine SM_cg s (fun _ _ => rfl) (s.2.1 1 (by decide)) (fun i hi => zm_out (by omega)) (fun i _ => ?_) ?_ ?_ ?_ ?_ (fun k hk => ?_)
    · rw [show zu_ Z 213 11 M' 214 = M' 1 from zm_in (j := 1) (by decide), nb.2 1 (by decide) (by decide) (by decide) (by decide)]
    · rw [show zu_ Z 213 11 M' 217 = M' 4 from zm_in (j := 4) (by decide), nb.2 4 (by decide) (by decide) (by decide) (by decide)]
    · rw [show zu_ Z 213 11 M' 218 = M' 5 from zm_in (j := 5) (by decide), nb.2 5 (by decide) (by decide) (by decide) (by decide)]
    · rw [show zu_ Z 213 11 M' 220 = M' 7 from zm_in (j := 7) (by decide), nb.2 7 (by decide) (by decide) (by decide) (by decide)]
    · rw [show zu_ Z 213 11 M' 223 = M' 10 from zm_in (j := 10) (by decide), nb.2 10 (by decide) (by decide) (by decide) (by decide)]
    · rw [show zu_ Z 213 11 M' 213 = M' 0 from zm_in (j := 0) (by decide), nb.1 k (by omega) (by omega) (by omega)]
  · rw [mg5 W2, show zu_ Z 213 11 M' 213 = M' 0 from zm_in (j := 0) (by decide)]
theorem OK_q {ex : List String} {q : Int32 ⊕ Nat} (hq : qb_ ex.length q) : OK_ ex (qo_ ex q) (qv_ q) (qk_ q) := by
  cases q with
  | inl v => exact .inl ⟨rfl, rfl⟩
  | inr i =>
    have hi := hq i rfl
    exact .inr ⟨i, ex.getD i "", by rw [List.getD_eq_getElem?_getD, List.getElem?_eq_getElem hi]; rfl, rfl, rfl⟩
theorem q_gen {ex : List String} {q : Int32 ⊕ Nat} {c : Option ((Int32 ⊕ String) × mm_S)} {m : mm_S → Option (Int32 × mm_S)} (W1 : WD_ A GG Z XL cap K h1) (s : SM_ GG Z XL cap) (hc : c = some (qo_ ex q, h1)) (hm : ∀ (K : Nat → mm_Ce) (H : mm_S), WD_ A GG Z XL cap K H → ∃ M', m (mv_ (lm_ A) (mw_ Z) H) = some (qv_ q, mv_ (lm_ A) M' H) ∧ NB_ (mw_ Z) M' ∧ M' 0 5 = qk_ q) (hq : qb_ ex.length q) : RS_ A K ex c m := by
  refine ⟨_, h1, _, _, hc, OK_q hq, ⟨_, _, _, _, W1⟩, fun K2 H HX => ?_⟩
  have W1 := HX _ _ _ _ W1
  obtain ⟨M', e, nb, e5⟩ := hm K2 H W1
  rw [(WD_m W1).2] at e
  obtain ⟨a1, a2⟩ := NB_ST W1 s nb
  rw [e5] at a2
  exact ⟨_, e, a2, a1⟩
theorem w5_5 {M : Nat → Nat → Int32} {k : Int32} : m5_ M k 0 5 = k := w2_at
/-- a question that changes nothing -/
theorem q_simple {ex : List String} {q : Int32 ⊕ Nat} {c : mm_S → Option (Int32 ⊕ String)} {m : mm_S → Option (Int32 × mm_S)} (hW : WD_ A GG Z XL cap K h) (s : SM_ GG Z XL cap) (hc : c (tv_ (lt_ A 0) (GG 0) (wt_ Z 0) h) = some (qo_ ex q)) (hm : ∀ (K : Nat → mm_Ce) (h : mm_S), WD_ A GG Z XL cap K h → m (mv_ (lm_ A) (mw_ Z) h) = some (mo_ (lm_ A) (mw_ Z) h q)) (hq : qb_ ex.length q) : RS_ A K ex ((c h).bind fun o => some (o, h)) m := by
  rw [(WD_t hW (by decide)).2] at hc
  refine q_gen hW s (by rw [hc]; rfl) (fun K H w => ⟨_, hm K H w, NB_m5, w5_5⟩) hq
theorem x_now (hW : WD_ A GG Z XL cap K h) : fx_gR (tv_ (lt_ A 0) (GG 0) (wt_ Z 0) h) (A 209) 5 0 = some (lt_ A 0 0) := by
  rw [(WD_t hW (by decide)).2]
  exact X_now hW
theorem qb_giant {T : Nat → Int32} {n : Nat} {a x : Int32} : qb_ exI_.length (q_giant T n a x) := by
  unfold q_giant
  intro i
  repeat' split
  all_goals (intro e; cases e; try decide)
theorem qb_land {T : Nat → Int32} {n : Nat} {a x : Int32} : qb_ exI_.length (q_land T n a x) := by
  unfold q_land
  intro i
  repeat' split
  all_goals (intro e; cases e; try decide)
theorem qb_stair {T : Nat → Int32} {n : Nat} {a x : Int32} : qb_ exI_.length (q_stair T n a x) := by
  unfold q_stair
  intro i
  repeat' split
  all_goals (intro e; cases e; try decide)
theorem qb_betw {T : Nat → Int32} {n : Nat} {a x : Int32} : qb_ exN_.length (q_betw T n a x) := by
  unfold q_betw
  intro i
  repeat' split
  all_goals (intro e; cases e; try decide)
theorem qb_brea {T : Nat → Int32} {n : Nat} {a x : Int32} : qb_ exI_.length (q_brea T n a x) := by
  unfold q_brea
  intro i
  repeat' split
  all_goals (intro e; cases e; try decide)
theorem qb_levy {T : Nat → Int32} {n : Nat} {a x : Int32} : qb_ exI_.length (q_levy T n a x) := by
  unfold q_levy
  intro i
  repeat' split
  all_goals (intro e; cases e; try decide)
theorem o_giantOf (hs : ST_ A K h) (a x : Int32) : RS_ A K exI_ ((F_X5_giantOf h (A 209) a x).bind fun o => some (o, h)) (fun h1 => F_X6_giantOf h1 (A 213) a x) := by
  obtain ⟨GG, Z, XL, cap, hW, s⟩ := hs
  obtain ⟨n, hn, hT, R, I⟩ := TR_n s.1
  exact q_simple (c := fun h => F_X5_giantOf h (A 209) a x) hW s (cq_giant (WD_t hW (by decide)).1 R (x_now hW) a x) (fun _ _ w => mq_giant (WD_m w).1 hT hn a x) qb_giant
theorem o_landingOf (hs : ST_ A K h) (a x : Int32) : RS_ A K exI_ ((F_X5_landingOf h (A 209) a x).bind fun o => some (o, h)) (fun h1 => F_X6_landingOf h1 (A 213) a x) := by
  obtain ⟨GG, Z, XL, cap, hW, s⟩ := hs
  obtain ⟨n, hn, hT, R, I⟩ := TR_n s.1
  exact q_simple (c := fun h => F_X5_landingOf h (A 209) a x) hW s (cq_land (WD_t hW (by decide)).1 R I (x_now hW) a x) (fun _ _ w => mq_land (WD_m w).1 hT hn a x) qb_land
theorem o_stairOf (hs : ST_ A K h) (a x : Int32) : RS_ A K exI_ ((F_X5_stairOf h (A 209) a x).bind fun o => some (o, h)) (fun h1 => F_X6_stairOf h1 (A 213) a x) := by
  obtain ⟨GG, Z, XL, cap, hW, s⟩ := hs
  obtain ⟨n, hn, hT, R, I⟩ := TR_n s.1
  exact q_simple (c := fun h => F_X5_stairOf h (A 209) a x) hW s (cq_stair (WD_t hW (by decide)).1 R (x_now hW) a x) (fun _ _ w => mq_stair (WD_m w).1 hT hn a x) qb_stair
theorem o_between (hs : ST_ A K h) (a x : Int32) : RS_ A K exN_ ((F_X5_between h (A 209) a x).bind fun o => some (o, h)) (fun h1 => F_X6_between h1 (A 213) a x) := by
  obtain ⟨GG, Z, XL, cap, hW, s⟩ := hs
  obtain ⟨n, hn, hT, R, I⟩ := TR_n s.1
  exact q_simple (c := fun h => F_X5_between h (A 209) a x) hW s (cq_betw (WD_t hW (by decide)).1 R (x_now hW) a x) (fun _ _ w => mq_betw (WD_m w).1 hT hn I a x) qb_betw
theorem o_breaths (hs : ST_ A K h) (a x : Int32) : RS_ A K exI_ ((F_X5_breaths h (A 209) a x).bind fun o => some (o, h)) (fun h1 => F_X6_breaths h1 (A 213) a x) := by
  obtain ⟨GG, Z, XL, cap, hW, s⟩ := hs
  obtain ⟨n, hn, hT, R, I⟩ := TR_n s.1
  exact q_simple (c := fun h => F_X5_breaths h (A 209) a x) hW s (cq_brea (WD_t hW (by decide)).1 R (x_now hW) a x) (fun _ _ w => mq_brea (WD_m w).1 hT hn a x) qb_brea
/-! levies to come -/
def mWo_ (M : Nat → Nat → Int32) (o : Option (Int32 × Int32)) : Nat → Nat → Int32 := match o with
  | none => M
  | some q => mW_ M q
theorem NB_W {M M' : Nat → Nat → Int32} {o : Option (Int32 × Int32)} (nb : NB_ M M') : NB_ M (mWo_ M' o) := by
  cases o with
  | none => exact nb
  | some q =>
    refine ⟨fun k h5 h7 h8 => ?_, fun a h0 h2 h3 h6 => ?_⟩
    · show mW_ M' q 0 k = M 0 k
      unfold mW_
      rw [w2_n2 (by omega), w2_n2 (by omega)]
      exact nb.1 k h5 h7 h8
    · show mW_ M' q a = M a
      unfold mW_
      rw [w2_ne h0, w2_ne h0]
      exact nb.2 a h0 h2 h3 h6
theorem Wo_1 {M : Nat → Nat → Int32} {o : Option (Int32 × Int32)} : mWo_ M o 1 = M 1 := by
  cases o with
  | none => rfl
  | some q => exact mW_1
theorem Wo_5 {M : Nat → Nat → Int32} {o : Option (Int32 × Int32)} : mWo_ M o 0 5 = M 0 5 := by
  cases o with
  | none => rfl
  | some q =>
    show mW_ M q 0 5 = _
    unfold mW_
    rw [w2_n2 (by omega), w2_n2 (by omega)]
theorem m_could {l : Nat → Nat} {M : Nat → Nat → Int32} {n : Nat} (hl : ov_L 11 l h) (hT : M 1 0 = nI n) (hn : n ≤ 10) (I : I_ (M 1) n) (a x : Int32) : F_X6_couldLevy (mv_ l M h) (l 0) a x = some (if (qrLevy_ (M 1) n a x).isSome then nI 0 else tLevyC_ (M 1) (cl_ a) (cl_ x), mv_ l (mWo_ M (qrLevy_ (M 1) n a x)) h) := by
  unfold F_X6_couldLevy
  rw [mv_is hl, Option.bind_some, m_nLevy hl hT hn I, Option.bind_some]
  cases e : qrLevy_ (M 1) n a x with
  | none =>
    have e0 := e
    unfold qrLevy_ at e
    obtain ⟨ha, hx, -⟩ := qG_none e
    obtain ⟨j, hj, rfl⟩ := S_of hn hx
    obtain ⟨b, hb, rfl⟩ := In_of (by decide) ha
    show (if nI 0 = 0 then _ else _) = _
    rw [if_pos (show (nI 0 : Int32) = 0 from rfl)]
    simp only [mR_, mv_is hl, Option.bind_some, m_levyC hl (show b < 2 by omega) (show j < 10 by omega), cl_nI (show j < 2 ^ 31 by omega), cl_nI (show b < 2 ^ 31 by omega)]
    rfl
  | some q =>
    show (if nI 1 = 0 then _ else _) = _
    rw [if_neg (by decide)]
    rfl
theorem mq_levy {l : Nat → Nat} {M : Nat → Nat → Int32} {n : Nat} (hl : ov_L 11 l h) (hT : M 1 0 = nI n) (hn : n ≤ 10) (I : I_ (M 1) n) (a s : Int32) : ∃ M', F_X6_levyOf (mv_ l M h) (l 0) a s = some (qv_ (q_levy (M 1) n a s), mv_ l M' h) ∧ NB_ M M' ∧ M' 0 5 = qk_ (q_levy (M 1) n a s) := by
  unfold F_X6_levyOf q_levy
  simp only [m_isG, Option.bind_some, kj_l0, bI_n, mv_is hl, m_S hl hT hn, m5_e hl, m5_g hl, kj_i0, kj_i1]
  by_cases ha : In_ (nI 0) (nI 1) a = true
  · by_cases hs : S_ n s = true
    · have hT5 : m5_ M (nI 0) 1 0 = nI n := by rw [m5_1, hT]
      have I5 : I_ (m5_ M (nI 0) 1) n := by rw [m5_1]; exact I
      refine ⟨mWo_ (m5_ M (nI 0)) (qrLevy_ (M 1) n a s), ?_, NB_W NB_m5, ?_⟩
      · simp only [ha, hs, not_true_eq_false, if_false, if_true, show nI 0 ≤ nI 0 from Int32.le_refl _, m_could hl hT5 hn I5, Option.bind_some, m5_1]
        rfl
      · rw [Wo_5, w5_5, if_pos ha, if_pos hs]
        rfl
    · refine ⟨m5_ M (nI 1), ?_, NB_m5, ?_⟩
      · simp only [ha, hs, not_true_eq_false, if_false, if_true, show ¬ nI 1 ≤ nI 0 by decide, not_false_eq_true]
        rfl
      · rw [w5_5, if_pos ha, if_neg hs]
        rfl
  · refine ⟨m5_ M (nI 1), ?_, NB_m5, ?_⟩
    · simp only [ha, not_false_eq_true, if_true, if_false, show ¬ nI 1 ≤ nI 0 by decide]
      rfl
    · rw [w5_5, if_neg ha]
      rfl
theorem q_part {ex : List String} {q : Int32 ⊕ Nat} {c : mm_S → Option (Int32 ⊕ String)} {m : mm_S → Option (Int32 × mm_S)} (hW : WD_ A GG Z XL cap K h) (s : SM_ GG Z XL cap) (hc : c (tv_ (lt_ A 0) (GG 0) (wt_ Z 0) h) = some (qo_ ex q)) (hm : ∀ (K : Nat → mm_Ce) (h : mm_S), WD_ A GG Z XL cap K h → ∃ M', m (mv_ (lm_ A) (mw_ Z) h) = some (qv_ q, mv_ (lm_ A) M' h) ∧ NB_ (mw_ Z) M' ∧ M' 0 5 = qk_ q) (hq : qb_ ex.length q) : RS_ A K ex ((c h).bind fun o => some (o, h)) m := by
  rw [(WD_t hW (by decide)).2] at hc
  exact q_gen hW s (by rw [hc]; rfl) hm hq
theorem o_levyOf (hs : ST_ A K h) (a x : Int32) : RS_ A K exI_ ((F_X5_levyOf h (A 209) a x).bind fun o => some (o, h)) (fun h1 => F_X6_levyOf h1 (A 213) a x) := by
  obtain ⟨GG, Z, XL, cap, hW, s⟩ := hs
  obtain ⟨n, hn, hT, R, I⟩ := TR_n s.1
  exact q_part (c := fun h => F_X5_levyOf h (A 209) a x) hW s (cq_levy (WD_t hW (by decide)).1 R I (x_now hW) a x) (fun _ _ w => mq_levy (WD_m w).1 hT hn I a x) qb_levy
end Q3

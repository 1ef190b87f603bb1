/-! tear, and one treaty copied from another -/
def tTear_ (T : Nat → Int32) (n s : Nat) : Nat → Int32 := fun i => if i = 0 then nI (n - 1) else if 34 + 7 * s ≤ i ∧ i < 34 + 7 * (n - 1) then T (i + 7) else if 34 + 7 * (n - 1) ≤ i ∧ i < 34 + 7 * n then nI 0 else T i
theorem tT_S {T : Nat → Int32} {n s j k : Nat} (hs : s < n) (hj : j < n - 1) (hk : k < 7) : sT_ (tTear_ T n s) j k = if s ≤ j then sT_ T (j + 1) k else sT_ T j k := by
  unfold sT_ tTear_
  rw [if_neg (by omega)]
  by_cases e : s ≤ j
  · rw [if_pos (by omega), if_pos e, show 34 + 7 * (j + 1) + k = 34 + 7 * j + k + 7 from by omega]
  · rw [if_neg (by omega), if_neg (by omega), if_neg e]
theorem tT_o {T : Nat → Int32} {n s i : Nat} (h0 : i ≠ 0) (h1 : i < 34) (hs : s < n) : tTear_ T n s i = T i := by
  unfold tTear_
  rw [if_neg h0, if_neg (by omega), if_neg (by omega)]
section TE
variable {l g : Nat → Nat} {w : Nat → Nat → Int32} {h : mm_S} {i k j b n s : Nat} {v : Int32} {T : Nat → Int32}
def gt_ (g : Nat → Nat) (s i : Nat) : Nat → Nat := fun k => if s ≤ k ∧ k + 1 < i then g (k + 1) else g k
theorem gt_si (R : R_ g w T n) {i : Nat} (hi : i ≤ n) {k : Nat} (hk : k < 10) : si_ (gt_ g s i k) := by
  have hn := R_n R
  unfold gt_
  split
  · exact R_si2 R (by omega)
  · exact R_si2 R hk
theorem c_tear (hl : ov_L 16 l h) (R : R_ g w T n) (hs : s < n) : ∃ g' w', F_X3_removeStair (tv_ l g w h) (l 0) (nI s) = some (nI (n - 1), tv_ l g' w' h) ∧ R_ g' w' (tTear_ T n s) (n - 1) := by
  have hn := R_n R
  have e3 : ∀ (g2 : Nat → Nat) (w2 : Nat → Nat → Int32) (m : Nat), w2 0 3 = nI m → fx_gI (tv_ l g2 w2 h) (l 0) 3 3 = some (nI m) := fun g2 w2 m e => by rw [tv_gN hl (by decide) (by decide), e]
  obtain ⟨x2, e, hp⟩ := lp_ (n := n) (f := fun m i (x : mm_S) => F_X3_removeStair_L11 m (l 0) (l (g s)) (nI i) x) (P := fun i x => s + 1 ≤ i ∧ x = tv_ l (gt_ g s i) w h) (fun m i x hi hp => by
    obtain ⟨h1, rfl⟩ := hp
    refine ⟨tv_ l (gt_ g s (i + 1)) w h, ?_, by omega, rfl⟩
    rw [F_X3_removeStair_L11, e3 _ _ n R.2.1.2.1, Option.bind_some, if_neg (nI_ge hi (by omega))]
    have eg : gt_ g s i i = g i := if_neg (by omega)
    have eu : va_up (gt_ g s i) (i - 1) (g i) = gt_ g s (i + 1) := by
      funext k
      unfold va_up gt_
      by_cases ek : k = i - 1
      · rw [if_pos ek, if_pos (by omega), show k + 1 = i from by omega]
      · rw [if_neg ek]
        by_cases e2 : s ≤ k ∧ k + 1 < i
        · rw [if_pos e2, if_pos (by omega)]
        · rw [if_neg e2, if_neg (by omega)]
    simp only [tv_r2 hl, Option.bind_some, tv_aS hl (show i < 10 by omega), eg, kj_i1, pk_sub (show 1 ≤ i by omega), tv_sS hl (show i - 1 < 10 by omega) (R_si2 R (show i < 10 by omega)), eu, nI_1, nI_add]) (n - (s + 1)) (s + 1) (tv_ l g w h) 1000 (by omega) ⟨by omega, by
      have eg : gt_ g s (s + 1) = g := by
        funext k
        unfold gt_
        exact if_neg (by omega)
      rw [eg]⟩ (by omega)
  obtain ⟨-, rfl⟩ := hp
  have hg0 : gt_ g s n s = gt_ g s n s := rfl
  refine ⟨va_up (gt_ g s n) (n - 1) (g s), w2_ w 0 3 (nI (n - 1)), ?_, ?_⟩
  · unfold F_X3_removeStair
    have ee : F_X3_removeStair_L11 (1000 - (n - (s + 1))) (l 0) (l (g s)) (nI n) (tv_ l (gt_ g s n) w h) = some (tv_ l (gt_ g s n) w h) := by
      rw [show 1000 - (n - (s + 1)) = (999 - (n - (s + 1))) + 1 from by omega, F_X3_removeStair_L11, e3 _ _ n R.2.1.2.1, Option.bind_some, if_pos (Int32.le_refl _)]
    rw [ee] at e
    simp only [tv_r0 hl, tv_r1 hl, tv_r2 hl, tv_is hl, Option.bind_some, kk_m2, kk_m3, kk_n1, kj_i0, kj_l0, kj_i1, kj_l1, kj_i2, kj_l2, kj_i3, kj_l3, kj_i4, kj_l4, kj_i5, kj_l5, kj_i6, kj_l6, kj_i7, kj_l7, kj_i8, kj_l8, kj_i9, kj_l9, kj_i10, kj_l10, kj_i11, kj_l11, kj_i12, kj_l12, kj_i13, kj_l13, kj_i14, kj_l14, kj_i15, kj_l15, kj_i16, kj_l16, kk_b6, kk_b7, kk_b8, kk_b9, kk_b10, kk_b11, kk_b12, kk_b13, kk_b14, kk_b15, kk_b16, kk_b20, kk_b40, nI_add, tv_aS hl (show s < 10 by omega), e, e3 _ _ n R.2.1.2.1, pk_sub (show 1 ≤ n by omega), tv_pN hl (show 3 ≤ 3 by decide) (show 3 < 10 by decide), e3 _ (w2_ w 0 3 (nI (n - 1))) (n - 1) w2_at, tv_sS hl (show n - 1 < 10 by omega) (R_si2 R (show s < 10 by omega))]
  · obtain ⟨R1, ⟨a0, a1, a2, a3, a4, a5, a6, a7⟩, R3, R4, R5, R6, R7⟩ := R
    have hz : ∀ c, ¬ c = 3 → w2_ w 0 3 (nI (n - 1)) 0 c = w 0 c := fun c hc => w2_n2 (by omega)
    refine ⟨by omega, ⟨rfl, w2_at, ?_, ?_, ?_, ?_, ?_, ?_⟩, ?_, ?_, ?_, ?_, ?_⟩
    · rw [hz _ (by decide), tT_o (by decide) (by decide) hs]; exact a2
    · rw [hz _ (by decide), tT_o (by decide) (by decide) hs]; exact a3
    · rw [hz _ (by decide), tT_o (by decide) (by decide) hs]; exact a4
    · rw [hz _ (by decide), tT_o (by decide) (by decide) hs]; exact a5
    · rw [hz _ (by decide), tT_o (by decide) (by decide) hs]; exact a6
    · rw [hz _ (by decide), tT_o (by decide) (by decide) hs]; exact a7
    · intro c hc
      unfold oT_
      rw [w2_n2 (by omega), tT_o (by omega) (by omega) hs]
      exact R3 c hc
    · intro b c hb hc
      unfold gT_
      rw [w2_n2 (by omega), tT_o (by omega) (by omega) hs]
      exact R4 b c hb hc
    · intro j k hj hk
      have h6 := R6 j (by omega)
      have h7 := R6 (j + 1) (by omega)
      unfold si_ at h6 h7
      rw [va_up_ne _ _ (by omega), tT_S hs hj hk]
      unfold gt_
      by_cases ej : s ≤ j
      · rw [if_pos (by omega), if_pos ej, w2_n2 (by omega)]
        exact R5 _ _ (by omega) hk
      · rw [if_neg (by omega), if_neg ej, w2_n2 (by omega)]
        exact R5 _ _ (by omega) hk
    · intro j hj
      by_cases ej : j = n - 1
      · rw [ej, va_up_self]
        exact R6 s (by omega)
      · rw [va_up_ne _ _ ej]
        unfold gt_
        split
        · exact R6 _ (by omega)
        · exact R6 _ hj
    · intro i j hi hj e2
      have key : ∀ i, i < 10 → ∃ p, p < 10 ∧ va_up (gt_ g s n) (n - 1) (g s) i = g p ∧ (p = if i = n - 1 then s else if s ≤ i ∧ i + 1 < n then i + 1 else i) := by
        intro i hi
        by_cases ei : i = n - 1
        · exact ⟨s, by omega, by rw [ei, va_up_self], by rw [if_pos ei]⟩
        · rw [va_up_ne _ _ ei, if_neg ei]
          unfold gt_
          by_cases e3 : s ≤ i ∧ i + 1 < n
          · exact ⟨i + 1, by omega, by rw [if_pos e3], by rw [if_pos e3]⟩
          · exact ⟨i, hi, by rw [if_neg e3], by rw [if_neg e3]⟩
      obtain ⟨p, hp, ep, fp⟩ := key i hi
      obtain ⟨q, hq, eq, fq⟩ := key j hj
      rw [ep, eq] at e2
      have := R7 _ _ hp hq e2
      subst this
      split at fp <;> split at fq <;> (try split at fp) <;> (try split at fq) <;> omega
end TE
/-- two treaties apart -/
def D_ (l l2 g2 : Nat → Nat) (w2 : Nat → Nat → Int32) (h : mm_S) : Prop := ov_L 16 l h ∧ ov_L 16 l2 h ∧ (∀ i j, i < 16 → j < 16 → l i ≠ l2 j) ∧ ∀ i, i < 16 → h.2 (l2 i) = tc_ l2 g2 w2 i
def wr_ (w : Nat → Nat → Int32) (i m : Nat) (f : Nat → Int32) : Nat → Nat → Int32 := fun a c => if a = i ∧ c < m then f c else w a c
section CP
variable {l l2 g g2 : Nat → Nat} {w w2 : Nat → Nat → Int32} {h : mm_S} {i i2 k j b n : Nat} {v : Int32} {T : Nat → Int32}
theorem D_eq (D : D_ l l2 g2 w2 h) : tv_ l2 g2 w2 (tv_ l g w h) = tv_ l g w h := by
  unfold tv_
  refine ov_eq D.2.1 (fun i hi => ?_)
  rw [ov_ne (fun j hj => D.2.2.1 j i hj hi)]
  exact D.2.2.2 i hi
theorem D_L2 (D : D_ l l2 g2 w2 h) : ov_L 16 l2 (tv_ l g w h) := D.2.1
theorem D_gS (D : D_ l l2 g2 w2 h) (hi : si_ i) (hk : k < 7) : fx_gI (tv_ l g w h) (l2 i) 2 k = some (w2 i k) := by
  have e := tv_gS (g := g2) (w := w2) (D_L2 D (g := g) (w := w)) hi hk
  rw [D_eq D] at e
  exact e
theorem D_gG (D : D_ l l2 g2 w2 h) (hi : gi_ i) (hk : k < 5) : fx_gI (tv_ l g w h) (l2 i) 0 k = some (w2 i k) := by
  have e := tv_gG (g := g2) (w := w2) (D_L2 D (g := g) (w := w)) hi hk
  rw [D_eq D] at e
  exact e
theorem D_gN (D : D_ l l2 g2 w2 h) (h3 : 3 ≤ k) (hk : k < 10) : fx_gI (tv_ l g w h) (l2 0) 3 k = some (w2 0 k) := by
  have e := tv_gN (g := g2) (w := w2) (D_L2 D (g := g) (w := w)) h3 hk
  rw [D_eq D] at e
  exact e
theorem D_r0 (D : D_ l l2 g2 w2 h) : fx_gR (tv_ l g w h) (l2 0) 3 0 = some (l2 1) := by
  have e := tv_r0 (g := g2) (w := w2) (D_L2 D (g := g) (w := w))
  rw [D_eq D] at e
  exact e
theorem D_r1 (D : D_ l l2 g2 w2 h) : fx_gR (tv_ l g w h) (l2 0) 3 1 = some (l2 2) := by
  have e := tv_r1 (g := g2) (w := w2) (D_L2 D (g := g) (w := w))
  rw [D_eq D] at e
  exact e
theorem D_r2 (D : D_ l l2 g2 w2 h) : fx_gR (tv_ l g w h) (l2 0) 3 2 = some (l2 3) := by
  have e := tv_r2 (g := g2) (w := w2) (D_L2 D (g := g) (w := w))
  rw [D_eq D] at e
  exact e
theorem D_aG (D : D_ l l2 g2 w2 h) (hb : b < 2) : fx_aR (tv_ l g w h) (l2 1) (nI b) = some (l2 (b + 4)) := by
  have e := tv_aG (g := g2) (w := w2) (D_L2 D (g := g) (w := w)) hb
  rw [D_eq D] at e
  exact e
theorem D_aS (D : D_ l l2 g2 w2 h) (hj : j < 10) : fx_aR (tv_ l g w h) (l2 3) (nI j) = some (l2 (g2 j)) := by
  have e := tv_aS (g := g2) (w := w2) (D_L2 D (g := g) (w := w)) hj
  rw [D_eq D] at e
  exact e
theorem D_ow (D : D_ l l2 g2 w2 h) : fx_arI (tv_ l g w h) (l2 2) [0, 4] = some (0, 8, w2 2) := by
  have e := ox_arI (c := tc_ l2 g2 w2) (t := 0) (m := 8) (f := w2 2) (D_L2 D (g := g) (w := w)) (show 2 < 16 by decide) rfl (show 0 ∈ [0, 4] by decide)
  rw [show ov_ 16 (tc_ l2 g2 w2) l2 (tv_ l g w h) = tv_ l g w h from D_eq D] at e
  exact e
theorem D_cp (D : D_ l l2 g2 w2 h) : fx_cp (tv_ l g w h) (l2 2) (nI 0) (l 2) (nI 0) (nI 8) = some (tv_ l g (fun a => if a = 2 then va_cpy (w2 2) (w 2) 0 0 8 else w a) h) := by
  have e1 := ox_arI (c := tc_ l g w) (t := 0) (m := 8) (f := w 2) D.1 (show 2 < 16 by decide) rfl (show 0 ∈ [0, 4] by decide)
  unfold fx_cp
  rw [D_ow D, Option.bind_some, show fx_arI (tv_ l g w h) (l 2) [0, 4] = some (0, 8, w 2) from e1, Option.bind_some]
  dsimp only
  rw [if_pos ⟨rfl, by decide, by decide, by decide, fun _ _ => rfl⟩]
  unfold tv_
  rw [ov_put D.1 (by decide)]
  exact congrArg some (tv_up rfl (fun a ha => (if_neg ha).symm))
theorem wr_G (w : Nat → Nat → Int32) (i : Nat) (f : Nat → Int32) : w2_ (w2_ (w2_ (w2_ (w2_ w i 0 (f 0)) i 1 (f 1)) i 2 (f 2)) i 3 (f 3)) i 4 (f 4) = wr_ w i 5 f := by
  funext a c
  unfold w2_ wr_
  by_cases ea : a = i
  · match c with
    | 0 | 1 | 2 | 3 | 4 => simp [ea]
    | c + 5 => simp [ea, show ¬ c + 5 < 5 by omega]
  · simp [ea]
theorem wr_S (w : Nat → Nat → Int32) (i : Nat) (f : Nat → Int32) : w2_ (w2_ (w2_ (w2_ (w2_ (w2_ (w2_ w i 0 (f 0)) i 1 (f 1)) i 2 (f 2)) i 3 (f 3)) i 4 (f 4)) i 5 (f 5)) i 6 (f 6) = wr_ w i 7 f := by
  funext a c
  unfold w2_ wr_
  by_cases ea : a = i
  · match c with
    | 0 | 1 | 2 | 3 | 4 | 5 | 6 => simp [ea]
    | c + 7 => simp [ea, show ¬ c + 7 < 7 by omega]
  · simp [ea]
theorem cp_G (D : D_ l l2 g2 w2 h) (hi : gi_ i) (hi2 : gi_ i2) : F_X0_copyFrom (tv_ l g w h) (l i) (l2 i2) = some (tv_ l g (wr_ w i 5 (w2 i2)) h) := by
  unfold F_X0_copyFrom
  simp only [Option.bind_some, D_gG D hi2 (show 0 < 5 by decide), D_gG D hi2 (show 1 < 5 by decide), D_gG D hi2 (show 2 < 5 by decide), D_gG D hi2 (show 3 < 5 by decide), D_gG D hi2 (show 4 < 5 by decide), tv_pG D.1 hi (show 0 < 5 by decide), tv_pG D.1 hi (show 1 < 5 by decide), tv_pG D.1 hi (show 2 < 5 by decide), tv_pG D.1 hi (show 3 < 5 by decide), tv_pG D.1 hi (show 4 < 5 by decide), wr_G]
theorem cp_S (D : D_ l l2 g2 w2 h) (hi : si_ i) (hi2 : si_ i2) : F_X2_copyFrom (tv_ l g w h) (l i) (l2 i2) = some (tv_ l g (wr_ w i 7 (w2 i2)) h) := by
  unfold F_X2_copyFrom
  simp only [Option.bind_some, D_gS D hi2 (show 0 < 7 by decide), D_gS D hi2 (show 1 < 7 by decide), D_gS D hi2 (show 2 < 7 by decide), D_gS D hi2 (show 3 < 7 by decide), D_gS D hi2 (show 4 < 7 by decide), D_gS D hi2 (show 5 < 7 by decide), D_gS D hi2 (show 6 < 7 by decide), tv_pS D.1 hi (show 0 < 7 by decide), tv_pS D.1 hi (show 1 < 7 by decide), tv_pS D.1 hi (show 2 < 7 by decide), tv_pS D.1 hi (show 3 < 7 by decide), tv_pS D.1 hi (show 4 < 7 by decide), tv_pS D.1 hi (show 5 < 7 by decide), tv_pS D.1 hi (show 6 < 7 by decide), wr_S]
theorem cp_LG (D : D_ l l2 g2 w2 h) : ∃ w', F_X3_copyFrom_L2 1000 (l 0) (l2 0) (nI 0) (tv_ l g w h) = some (tv_ l g w' h) ∧ (∀ b k, b < 2 → k < 5 → w' (b + 4) k = w2 (b + 4) k) := by
  have hl := D.1
  obtain ⟨x2, e, hp⟩ := lp_ (n := 2) (f := fun m i (x : mm_S) => F_X3_copyFrom_L2 m (l 0) (l2 0) (nI i) x) (P := fun i x => ∃ w', x = tv_ l g w' h ∧ (∀ b k, b < i → k < 5 → w' (b + 4) k = w2 (b + 4) k)) (fun m i x hi hp => by
    obtain ⟨w', rfl, hw⟩ := hp
    refine ⟨_, ?_, wr_ w' (i + 4) 5 (w2 (i + 4)), rfl, ?_⟩
    · rw [F_X3_copyFrom_L2, kj_i2, if_neg (nI_ge hi (by decide))]
      simp only [Option.bind_some, tv_r0 hl, D_r0 D, tv_aG hl hi, D_aG D hi, tv_isG hl (gi_b hi), cp_G D (gi_b hi) (gi_b hi), kj_i1, nI_add]
    · intro b k hb hk
      unfold wr_
      by_cases e : b = i
      · rw [e, if_pos ⟨rfl, hk⟩]
      · rw [if_neg (by omega)]
        exact hw b k (by omega) hk) 2 0 (tv_ l g w h) 1000 (by omega) ⟨w, rfl, fun b k hb => by omega⟩ (by omega)
  obtain ⟨w', rfl, hw⟩ := hp
  refine ⟨w', ?_, hw⟩
  rw [e, show 1000 - 2 = 997 + 1 from rfl, F_X3_copyFrom_L2, kj_i2, if_pos (Int32.le_refl _)]
theorem cp_LS (D : D_ l l2 g2 w2 h) (hg : ∀ j, j < 10 → si_ (g j)) (hgi : ∀ i j, i < 10 → j < 10 → g i = g j → i = j) (hg2 : ∀ j, j < 10 → si_ (g2 j)) : ∃ w', F_X3_copyFrom_L45 1000 (l 0) (l2 0) (nI 0) (tv_ l g w h) = some (tv_ l g w' h) ∧ (∀ a c, a < 6 → w' a c = w a c) ∧ (∀ j k, j < 10 → k < 7 → w' (g j) k = w2 (g2 j) k) := by
  have hl := D.1
  obtain ⟨x2, e, hp⟩ := lp_ (n := 10) (f := fun m i (x : mm_S) => F_X3_copyFrom_L45 m (l 0) (l2 0) (nI i) x) (P := fun i x => ∃ w', x = tv_ l g w' h ∧ (∀ a c, a < 6 → w' a c = w a c) ∧ (∀ j k, j < i → k < 7 → w' (g j) k = w2 (g2 j) k)) (fun m i x hi hp => by
    obtain ⟨w', rfl, h6, hw⟩ := hp
    refine ⟨_, ?_, wr_ w' (g i) 7 (w2 (g2 i)), rfl, ?_, ?_⟩
    · rw [F_X3_copyFrom_L45, kk_b10, if_neg (nI_ge hi (by decide))]
      simp only [Option.bind_some, tv_r2 hl, D_r2 D, tv_aS hl hi, D_aS D hi, tv_isS hl (hg i hi), cp_S D (hg i hi) (hg2 i hi), kj_i1, nI_add]
    · intro a c ha
      have h2 := hg i hi
      unfold si_ at h2
      unfold wr_
      rw [if_neg (by omega)]
      exact h6 a c ha
    · intro j k hj hk
      unfold wr_
      by_cases e : j = i
      · rw [e, if_pos ⟨rfl, hk⟩]
      · rw [if_neg (fun q => e (hgi _ _ (by omega) hi q.1))]
        exact hw j k (by omega) hk) 10 0 (tv_ l g w h) 1000 (by omega) ⟨w, rfl, fun _ _ _ => rfl, fun b k hb => by omega⟩ (by omega)
  obtain ⟨w', rfl, h6, hw⟩ := hp
  refine ⟨w', ?_, h6, hw⟩
  rw [e, show 1000 - 10 = 989 + 1 from rfl, F_X3_copyFrom_L45, kk_b10, if_pos (Int32.le_refl _)]
theorem c_copy (D : D_ l l2 g2 w2 h) (R : R_ g2 w2 T n) (hg : ∀ j, j < 10 → si_ (g j)) (hgi : ∀ i j, i < 10 → j < 10 → g i = g j → i = j) : ∃ w', F_X3_copyFrom (tv_ l g w h) (l 0) (l2 0) = some (tv_ l g w' h) ∧ R_ g w' T n := by
  have hl := D.1
  obtain ⟨w1, e1, hw1⟩ := cp_LG (g := g) (w := w) D
  obtain ⟨R1, ⟨a0, a1, a2, a3, a4, a5, a6, a7⟩, R3, R4, R5, R6, R7⟩ := R
  obtain ⟨w3, e3, h6, hw3⟩ := cp_LS (g := g) (w := fun a => if a = 2 then va_cpy (w2 2) (w1 2) 0 0 8 else w1 a) D hg hgi R6
  refine ⟨w2_ (w2_ (w2_ (w2_ (w2_ (w2_ (w2_ w3 0 3 (w2 0 3)) 0 4 (w2 0 4)) 0 5 (w2 0 5)) 0 6 (w2 0 6)) 0 7 (w2 0 7)) 0 8 (w2 0 8)) 0 9 (w2 0 9), ?_, ?_⟩
  · unfold F_X3_copyFrom
    simp only [kk_m2, kk_m3, kk_n1, kj_i0, kj_l0, kj_i1, kj_l1, kj_i2, kj_l2, kj_i3, kj_l3, kj_i4, kj_l4, kj_i5, kj_l5, kj_i6, kj_l6, kj_i7, kj_l7, kj_i8, kj_l8, kj_i9, kj_l9, kj_i10, kj_l10, kj_i11, kj_l11, kj_i12, kj_l12, kj_i13, kj_l13, kj_i14, kj_l14, kj_i15, kj_l15, kj_i16, kj_l16, kk_b6, kk_b7, kk_b8, kk_b9, kk_b10, kk_b11, kk_b12, kk_b13, kk_b14, kk_b15, kk_b16, kk_b20, kk_b40, nI_add, Option.bind_some, e1, D_r1 D, tv_r1 hl, D_cp D, e3, D_gN D (show 3 ≤ 3 by decide) (show 3 < 10 by decide), D_gN D (show 3 ≤ 4 by decide) (show 4 < 10 by decide), D_gN D (show 3 ≤ 5 by decide) (show 5 < 10 by decide), D_gN D (show 3 ≤ 6 by decide) (show 6 < 10 by decide), D_gN D (show 3 ≤ 7 by decide) (show 7 < 10 by decide), D_gN D (show 3 ≤ 8 by decide) (show 8 < 10 by decide), D_gN D (show 3 ≤ 9 by decide) (show 9 < 10 by decide), tv_pN hl (show 3 ≤ 3 by decide) (show 3 < 10 by decide), tv_pN hl (show 3 ≤ 4 by decide) (show 4 < 10 by decide), tv_pN hl (show 3 ≤ 5 by decide) (show 5 < 10 by decide), tv_pN hl (show 3 ≤ 6 by decide) (show 6 < 10 by decide), tv_pN hl (show 3 ≤ 7 by decide) (show 7 < 10 by decide), tv_pN hl (show 3 ≤ 8 by decide) (show 8 < 10 by decide), tv_pN hl (show 3 ≤ 9 by decide) (show 9 < 10 by decide)]
  · have hne : ∀ a c, ¬ a = 0 → w2_ (w2_ (w2_ (w2_ (w2_ (w2_ (w2_ w3 0 3 (w2 0 3)) 0 4 (w2 0 4)) 0 5 (w2 0 5)) 0 6 (w2 0 6)) 0 7 (w2 0 7)) 0 8 (w2 0 8)) 0 9 (w2 0 9) a c = w3 a c := fun a c ha => by simp [w2_, ha]
    refine ⟨R1, ⟨a0, ?_, ?_, ?_, ?_, ?_, ?_, ?_⟩, ?_, ?_, ?_, hg, hgi⟩
    · rw [← a1]; simp [w2_]
    · rw [← a2]; simp [w2_]
    · rw [← a3]; simp [w2_]
    · rw [← a4]; simp [w2_]
    · rw [← a5]; simp [w2_]
    · rw [← a6]; simp [w2_]
    · rw [← a7]; simp [w2_]
    · intro c hc
      rw [hne _ _ (by decide), h6 _ _ (by decide), ← R3 c hc]
      rw [if_pos rfl, pk_cpy_in (Nat.zero_le _) (by omega), Nat.zero_add, Nat.sub_zero]
    · intro b c hb hc
      rw [hne _ _ (by omega), h6 _ _ (by omega), ← R4 b c hb hc]
      rw [if_neg (by omega)]
      exact hw1 b c hb hc
    · intro j k hj hk
      have h2 := hg j (by omega)
      unfold si_ at h2
      rw [hne _ _ (by omega), hw3 j k (by omega) hk]
      exact R5 j k hj hk
end CP

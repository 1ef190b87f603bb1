def fo_ {β : Type} (g : Nat → β → β) (b : β) : Nat → β
  | 0 => b
  | n + 1 => g n (fo_ g b n)
theorem lp_o {β γ : Type} {n : Nat} {f : Nat → Nat → β → Option γ} (g : Nat → β → β) (hs : ∀ m i b, i < n → f (m + 1) i b = f m (i + 1) (g i b)) (b : β) (m : Nat) (hm : n ≤ m) : f m 0 b = f (m - n) n (fo_ g b n) := by
  obtain ⟨b2, e, hp⟩ := lp_ (P := fun i x => x = fo_ g b i) (fun m i x hi hp => ⟨g i x, hs m i x hi, by rw [hp]; rfl⟩) n 0 b m (by omega) rfl hm
  rw [e, hp]
def qL_ (T : Nat → Int32) (o : Int32) : Int32 := fo_ (fun i x => if oT_ T i = o then x + nI 1 else x) (nI 0) 8
def qM_ (T : Nat → Int32) (n : Nat) (b : Int32) : Int32 := fo_ (fun j x => if sT_ T j 5 = b then x + nI 1 else x) (nI 0) n
def qU_ (T : Nat → Int32) (k n : Nat) : Int32 := fo_ (fun j x => x + sT_ T j k) (nI 0) n
def qB_ (T : Nat → Int32) (n : Nat) (a : Int32) : Int32 := fo_ (fun j x => if E_ (sT_ T j) a then x ||| (nI 1 <<< (oth_ (sT_ T j) a &&& 31)) else x) (nI 0) n
def qP_ (T : Nat → Int32) (n j : Nat) (kd : Int32) : Int32 := fo_ (fun o x => if key_ (sT_ T j) kd < key_ (sT_ T o) kd ∨ key_ (sT_ T o) kd = key_ (sT_ T j) kd ∧ o < j then x + nI 1 else x) (nI 0) n
def qW_ (T : Nat → Int32) (x : Int32) : Int32 := if gT_ T 0 1 = x then nI 0 else if gT_ T 1 1 = x then nI 1 else m1_
section LR
variable {l g : Nat → Nat} {w : Nat → Nat → Int32} {h : mm_S} {i k j b n : Nat} {v : Int32} {T : Nat → Int32}
theorem T_L (hl : ov_L 16 l h) (R : R_ g w T n) (o : Int32) : F_X3_landingsOf (tv_ l g w h) (l 0) o = some (qL_ T o) := by
  have hn := R_n R
  unfold F_X3_landingsOf
  have key := lp_o (n := 8) (f := fun m i x => F_X3_landingsOf_L4 (tv_ l g w h) m (l 0) o x (nI i)) (fun i x => if oT_ T i = o then x + nI 1 else x) (fun m i x hi => by
    rw [F_X3_landingsOf_L4, kk_b8, if_neg (nI_ge hi (by decide))]
    simp only [T_n hl R, T_t hl R, T_c hl R, tv_r0 hl, tv_r1 hl, tv_r2 hl, tv_is hl, Option.bind_some, kk_m2, kk_m3, kk_n1, kk_b8, kk_b10, kj_i0, kj_l0, kj_i1, kj_l1, kj_i2, kj_l2, kj_i3, kj_l3, kj_i4, kj_l4, kj_i5, kj_l5, kj_i6, kj_l6, kj_i7, kj_l7, kj_i8, kj_l8, kj_i9, kj_l9, kj_i10, kj_l10, nI_add, T_O hl R hi, ite_not]
    by_cases hc : oT_ T i = o <;> simp [hc]) (nI 0) 1000 (by omega)
  rw [show ki 0 = nI 0 from rfl, key, show 1000 - 8 = 991 + 1 from rfl, F_X3_landingsOf_L4, kk_b8, if_pos (Int32.le_refl _), Option.bind_some]
  rfl
theorem T_M (hl : ov_L 16 l h) (R : R_ g w T n) (o : Int32) : F_X3_leasesOf (tv_ l g w h) (l 0) o = some (qM_ T n o) := by
  have hn := R_n R
  unfold F_X3_leasesOf
  have key := lp_o (n := n) (f := fun m i x => F_X3_leasesOf_L4 (tv_ l g w h) m (l 0) o x (nI i)) (fun j x => if sT_ T j 5 = o then x + nI 1 else x) (fun m i x hi => by
    rw [F_X3_leasesOf_L4, T_n hl R, Option.bind_some, if_neg (nI_ge hi (by omega))]
    simp only [T_n hl R, T_t hl R, T_c hl R, tv_r0 hl, tv_r1 hl, tv_r2 hl, tv_is hl, Option.bind_some, kk_m2, kk_m3, kk_n1, kk_b8, kk_b10, kj_i0, kj_l0, kj_i1, kj_l1, kj_i2, kj_l2, kj_i3, kj_l3, kj_i4, kj_l4, kj_i5, kj_l5, kj_i6, kj_l6, kj_i7, kj_l7, kj_i8, kj_l8, kj_i9, kj_l9, kj_i10, kj_l10, nI_add, T_aS hl R hi, T_S hl R hi (show 5 < 7 by decide), ite_not]
    by_cases hc : sT_ T i 5 = o <;> simp [hc]) (nI 0) 1000 (by omega)
  rw [show ki 0 = nI 0 from rfl, key, show 1000 - n = (999 - n) + 1 from by omega, F_X3_leasesOf_L4, T_n hl R, Option.bind_some, if_pos (Int32.le_refl _), Option.bind_some]
  rfl
theorem T_du (hl : ov_L 16 l h) (R : R_ g w T n) : F_X3_dustOnAll (tv_ l g w h) (l 0) = some (qU_ T 3 n) := by
  have hn := R_n R
  unfold F_X3_dustOnAll
  have key := lp_o (n := n) (f := fun m i x => F_X3_dustOnAll_L4 (tv_ l g w h) m (l 0) x (nI i)) (fun j x => x + sT_ T j 3) (fun m i x hi => by
    rw [F_X3_dustOnAll_L4, T_n hl R, Option.bind_some, if_neg (nI_ge hi (by omega))]
    simp only [T_n hl R, T_t hl R, T_c hl R, tv_r0 hl, tv_r1 hl, tv_r2 hl, tv_is hl, Option.bind_some, kk_m2, kk_m3, kk_n1, kk_b8, kk_b10, kj_i0, kj_l0, kj_i1, kj_l1, kj_i2, kj_l2, kj_i3, kj_l3, kj_i4, kj_l4, kj_i5, kj_l5, kj_i6, kj_l6, kj_i7, kj_l7, kj_i8, kj_l8, kj_i9, kj_l9, kj_i10, kj_l10, nI_add, T_aS hl R hi, T_S hl R hi (show 3 < 7 by decide)]) (nI 0) 1000 (by omega)
  rw [show ki 0 = nI 0 from rfl, key, show 1000 - n = (999 - n) + 1 from by omega, F_X3_dustOnAll_L4, T_n hl R, Option.bind_some, if_pos (Int32.le_refl _), Option.bind_some]
  rfl
theorem T_ss (hl : ov_L 16 l h) (R : R_ g w T n) : F_X3_stepsOfAll (tv_ l g w h) (l 0) = some (qU_ T 2 n) := by
  have hn := R_n R
  unfold F_X3_stepsOfAll
  have key := lp_o (n := n) (f := fun m i x => F_X3_stepsOfAll_L4 (tv_ l g w h) m (l 0) x (nI i)) (fun j x => x + sT_ T j 2) (fun m i x hi => by
    rw [F_X3_stepsOfAll_L4, T_n hl R, Option.bind_some, if_neg (nI_ge hi (by omega))]
    simp only [T_n hl R, T_t hl R, T_c hl R, tv_r0 hl, tv_r1 hl, tv_r2 hl, tv_is hl, Option.bind_some, kk_m2, kk_m3, kk_n1, kk_b8, kk_b10, kj_i0, kj_l0, kj_i1, kj_l1, kj_i2, kj_l2, kj_i3, kj_l3, kj_i4, kj_l4, kj_i5, kj_l5, kj_i6, kj_l6, kj_i7, kj_l7, kj_i8, kj_l8, kj_i9, kj_l9, kj_i10, kj_l10, nI_add, T_aS hl R hi, T_S hl R hi (show 2 < 7 by decide)]) (nI 0) 1000 (by omega)
  rw [show ki 0 = nI 0 from rfl, key, show 1000 - n = (999 - n) + 1 from by omega, F_X3_stepsOfAll_L4, T_n hl R, Option.bind_some, if_pos (Int32.le_refl _), Option.bind_some]
  rfl
theorem T_B (hl : ov_L 16 l h) (R : R_ g w T n) (a : Int32) : F_X3_joinedWith (tv_ l g w h) (l 0) a = some (qB_ T n a) := by
  have hn := R_n R
  unfold F_X3_joinedWith
  have key := lp_o (n := n) (f := fun m i x => F_X3_joinedWith_L4 (tv_ l g w h) m (l 0) a x (nI i)) (fun j x => if E_ (sT_ T j) a then x ||| (nI 1 <<< (oth_ (sT_ T j) a &&& 31)) else x) (fun m i x hi => by
    rw [F_X3_joinedWith_L4, T_n hl R, Option.bind_some, if_neg (nI_ge hi (by omega))]
    simp only [T_n hl R, T_t hl R, T_c hl R, tv_r0 hl, tv_r1 hl, tv_r2 hl, tv_is hl, Option.bind_some, kk_m2, kk_m3, kk_n1, kk_b8, kk_b10, kj_i0, kj_l0, kj_i1, kj_l1, kj_i2, kj_l2, kj_i3, kj_l3, kj_i4, kj_l4, kj_i5, kj_l5, kj_i6, kj_l6, kj_i7, kj_l7, kj_i8, kj_l8, kj_i9, kj_l9, kj_i10, kj_l10, nI_add, T_aS hl R hi, T_is hl R hi, T_E hl R hi, T_oth hl R hi, bI_n]
    by_cases hc : E_ (sT_ T i) a <;> simp [hc]) (nI 0) 1000 (by omega)
  rw [show ki 0 = nI 0 from rfl, key, show 1000 - n = (999 - n) + 1 from by omega, F_X3_joinedWith_L4, T_n hl R, Option.bind_some, if_pos (Int32.le_refl _), Option.bind_some]
  rfl
theorem T_P (hl : ov_L 16 l h) (R : R_ g w T n) (hj : j < n) (kd : Int32) : F_X3_placeOf (tv_ l g w h) (l 0) (nI j) kd = some (qP_ T n j kd) := by
  have hn := R_n R
  unfold F_X3_placeOf
  simp only [T_n hl R, T_t hl R, T_c hl R, tv_r0 hl, tv_r1 hl, tv_r2 hl, tv_is hl, Option.bind_some, kk_m2, kk_m3, kk_n1, kk_b8, kk_b10, kj_i0, kj_l0, kj_i1, kj_l1, kj_i2, kj_l2, kj_i3, kj_l3, kj_i4, kj_l4, kj_i5, kj_l5, kj_i6, kj_l6, kj_i7, kj_l7, kj_i8, kj_l8, kj_i9, kj_l9, kj_i10, kj_l10, nI_add, T_aS hl R hj, T_is hl R hj, T_key hl R hj]
  have key := lp_o (n := n) (f := fun m i x => F_X3_placeOf_L17 (tv_ l g w h) m (l 0) (nI j) kd (key_ (sT_ T j) kd) x (nI i)) (fun o x => if key_ (sT_ T j) kd < key_ (sT_ T o) kd ∨ key_ (sT_ T o) kd = key_ (sT_ T j) kd ∧ o < j then x + nI 1 else x) (fun m i x hi => by
    rw [F_X3_placeOf_L17, T_n hl R, Option.bind_some, if_neg (nI_ge hi (by omega))]
    simp only [T_n hl R, T_t hl R, T_c hl R, tv_r0 hl, tv_r1 hl, tv_r2 hl, tv_is hl, Option.bind_some, kk_m2, kk_m3, kk_n1, kk_b8, kk_b10, kj_i0, kj_l0, kj_i1, kj_l1, kj_i2, kj_l2, kj_i3, kj_l3, kj_i4, kj_l4, kj_i5, kj_l5, kj_i6, kj_l6, kj_i7, kj_l7, kj_i8, kj_l8, kj_i9, kj_l9, kj_i10, kj_l10, nI_add, T_aS hl R hi, T_is hl R hi, T_key hl R hi, nI_leI (show j < 2 ^ 31 by omega) (show i < 2 ^ 31 by omega)]
    by_cases h1 : key_ (sT_ T j) kd < key_ (sT_ T i) kd
    · rw [if_pos h1, if_pos (.inl h1)]
    · rw [if_neg h1]
      by_cases h2 : key_ (sT_ T i) kd = key_ (sT_ T j) kd
      · rw [if_neg (fun q => q h2)]
        by_cases h3 : j ≤ i
        · rw [if_pos h3, if_neg (fun q => q.elim h1 (fun z => absurd z.2 (by omega)))]
        · rw [if_neg h3, if_pos (.inr ⟨h2, by omega⟩)]
      · rw [if_pos h2, if_neg (fun q => q.elim h1 (fun z => h2 z.1))]) (nI 0) 1000 (by omega)
  rw [key, show 1000 - n = (999 - n) + 1 from by omega, F_X3_placeOf_L17, T_n hl R, Option.bind_some, if_pos (Int32.le_refl _), Option.bind_some]
  rfl
theorem T_W (hl : ov_L 16 l h) (R : R_ g w T n) (x : Int32) : F_X3_whoStandsOn (tv_ l g w h) (l 0) x = some (qW_ T x) := by
  unfold F_X3_whoStandsOn
  rw [show (1000 : Nat) = 997 + 1 + 1 + 1 from rfl, F_X3_whoStandsOn_L2, F_X3_whoStandsOn_L2, F_X3_whoStandsOn_L2]
  have h1 : ¬ nI 2 ≤ nI 0 := by decide
  have h2 : ¬ nI 2 ≤ nI 1 := by decide
  have h3 : nI 2 ≤ nI 2 := by decide
  have a0 := tv_aG (g := g) (w := w) hl (show 0 < 2 by decide)
  have a1 := tv_aG (g := g) (w := w) hl (show 1 < 2 by decide)
  have g0 := T_G hl R (show 0 < 2 by decide) (show 1 < 5 by decide)
  have g1 := T_G hl R (show 1 < 2 by decide) (show 1 < 5 by decide)
  simp only [T_n hl R, T_t hl R, T_c hl R, tv_r0 hl, tv_r1 hl, tv_r2 hl, tv_is hl, Option.bind_some, kk_m2, kk_m3, kk_n1, kk_b8, kk_b10, kj_i0, kj_l0, kj_i1, kj_l1, kj_i2, kj_l2, kj_i3, kj_l3, kj_i4, kj_l4, kj_i5, kj_l5, kj_i6, kj_l6, kj_i7, kj_l7, kj_i8, kj_l8, kj_i9, kj_l9, kj_i10, kj_l10, nI_add, Nat.zero_add, Nat.reduceAdd] at a0 a1 g0 g1 ⊢
  rw [if_neg h1, if_neg h2, if_pos h3]
  simp only [a0, a1, g0, g1, Option.bind_some]
  unfold qW_
  by_cases e0 : gT_ T 0 1 = x
  · simp [e0]
  · by_cases e1 : gT_ T 1 1 = x
    · simp [e0, e1, kj_l1]
    · simp [e0, e1, kj_l1]
theorem T_price (hl : ov_L 16 l h) (R : R_ g w T n) (hk : k < 8) : F_X3_takingCoins (tv_ l g w h) (l 0) (nI k) = some (if oT_ T k = nI 2 then nI 5 else nI 10) := by
  unfold F_X3_takingCoins
  simp only [T_n hl R, T_t hl R, T_c hl R, tv_r0 hl, tv_r1 hl, tv_r2 hl, tv_is hl, Option.bind_some, kk_m2, kk_m3, kk_n1, kk_b8, kk_b10, kj_i0, kj_l0, kj_i1, kj_l1, kj_i2, kj_l2, kj_i3, kj_l3, kj_i4, kj_l4, kj_i5, kj_l5, kj_i6, kj_l6, kj_i7, kj_l7, kj_i8, kj_l8, kj_i9, kj_l9, kj_i10, kj_l10, nI_add, T_O hl R hk]
  by_cases e : oT_ T k = nI 2
  · simp [e]
  · simp [e]
theorem T_open (hl : ov_L 16 l h) (R : R_ g w T n) (hk : k < 8) (x : Int32) : F_X3_isOpenTo (tv_ l g w h) (l 0) x (nI k) = some (bI_ (x = m1_ ∨ oT_ T k ≠ nI 2)) := by
  unfold F_X3_isOpenTo
  simp only [T_n hl R, T_t hl R, T_c hl R, tv_r0 hl, tv_r1 hl, tv_r2 hl, tv_is hl, Option.bind_some, kk_m2, kk_m3, kk_n1, kk_b8, kk_b10, kj_i0, kj_l0, kj_i1, kj_l1, kj_i2, kj_l2, kj_i3, kj_l3, kj_i4, kj_l4, kj_i5, kj_l5, kj_i6, kj_l6, kj_i7, kj_l7, kj_i8, kj_l8, kj_i9, kj_l9, kj_i10, kj_l10, nI_add, T_O hl R hk]
  by_cases e : x = m1_
  · rw [if_pos e, bI_t (.inl e)]
    rfl
  · rw [if_neg e]
    by_cases e2 : oT_ T k = nI 2
    · rw [if_pos e2, bI_f (fun q => q.elim e (fun z => z e2))]
      rfl
    · rw [if_neg e2, bI_t (.inr e2)]
      rfl
theorem T_coins (hl : ov_L 16 l h) (R : R_ g w T n) : F_X3_coinsOfAll (tv_ l g w h) (l 0) = some (gT_ T 0 0 + gT_ T 1 0 + T 2) := by
  unfold F_X3_coinsOfAll
  have a0 := tv_aG (g := g) (w := w) hl (show 0 < 2 by decide)
  have a1 := tv_aG (g := g) (w := w) hl (show 1 < 2 by decide)
  have g0 := T_G hl R (show 0 < 2 by decide) (show 0 < 5 by decide)
  have g1 := T_G hl R (show 1 < 2 by decide) (show 0 < 5 by decide)
  simp only [T_n hl R, T_t hl R, T_c hl R, tv_r0 hl, tv_r1 hl, tv_r2 hl, tv_is hl, Option.bind_some, kk_m2, kk_m3, kk_n1, kk_b8, kk_b10, kj_i0, kj_l0, kj_i1, kj_l1, kj_i2, kj_l2, kj_i3, kj_l3, kj_i4, kj_l4, kj_i5, kj_l5, kj_i6, kj_l6, kj_i7, kj_l7, kj_i8, kj_l8, kj_i9, kj_l9, kj_i10, kj_l10, nI_add, Nat.zero_add, Nat.reduceAdd] at a0 a1 g0 g1 ⊢
  simp only [a0, a1, g0, g1, Option.bind_some]
end LR

/-! what holds of every treaty is kept -/
section IN
variable {T T' : Nat → Int32} {i j k b n : Nat}
theorem St_c {f f' : Nat → Int32} (h : St_ f) (e : ∀ k, k < 7 → f' k = f k) : St_ f' := by
  unfold St_ at h ⊢
  rw [e 0 (by decide), e 1 (by decide), e 2 (by decide), e 3 (by decide), e 4 (by decide), e 5 (by decide), e 6 (by decide)]
  exact h
theorem I_congr (I : I_ T n) (hn : n ≤ 10) (e : ∀ i, i < 110 → T' i = T i) : I_ T' n := by
  obtain ⟨I1, I2, I3, I4, I5, I6, I7⟩ := I
  have es : ∀ j k, j < 10 → k < 7 → sT_ T' j k = sT_ T j k := fun j k hj hk => e _ (by omega)
  have eg : ∀ b k, b < 2 → k < 5 → gT_ T' b k = gT_ T b k := fun b k hb hk => e _ (by omega)
  have eo : ∀ i, i < 8 → oT_ T' i = oT_ T i := fun i hi => e _ (by omega)
  refine ⟨by rw [e 3 (by decide)]; exact I1, fun i hi => by rw [eo i hi]; exact I2 i hi, fun b hb => ?_, ?_, fun j hj => St_c (I5 j hj) (fun k hk => es j k (by omega) hk), fun i j hi hj => ?_, ?_⟩
  · obtain ⟨a, h1, h2, h3⟩ := I3 b hb
    exact ⟨a, h1, by rw [eg b 1 hb (by decide)]; exact h2, by rw [eo a h1]; exact h3⟩
  · rw [eg 0 0 (by decide) (by decide), eg 1 0 (by decide) (by decide), e 2 (by decide)]
    exact I4
  · rw [es i 0 (by omega) (by decide), es j 0 (by omega) (by decide), es i 1 (by omega) (by decide), es j 1 (by omega) (by decide)]
    exact I6 i j hi hj
  · rw [e 4 (by decide), e 6 (by decide), e 7 (by decide), eg 0 2 (by decide) (by decide), eg 0 3 (by decide) (by decide), eg 0 4 (by decide) (by decide), eg 1 2 (by decide) (by decide), eg 1 3 (by decide) (by decide), eg 1 4 (by decide) (by decide)]
    exact I7
/-- numbers of one staircase, but its ends, are changed -/
theorem I_stair (I : I_ T n) (hj : j < n) (e : ∀ i, ¬ (34 + 7 * j + 2 ≤ i ∧ i < 34 + 7 * j + 7) → T' i = T i) (hS : St_ (sT_ T' j)) : I_ T' n := by
  obtain ⟨I1, I2, I3, I4, I5, I6, I7⟩ := I
  have es : ∀ i k, k < 7 → (i = j → k < 2) → sT_ T' i k = sT_ T i k := fun i k hk h => e _ (by
    by_cases q : i = j
    · have := h q
      omega
    · omega)
  have eg : ∀ b k, b < 2 → k < 5 → gT_ T' b k = gT_ T b k := fun b k hb hk => e _ (by omega)
  have eo : ∀ i, i < 8 → oT_ T' i = oT_ T i := fun i hi => e _ (by omega)
  refine ⟨by rw [e 3 (by omega)]; exact I1, fun i hi => by rw [eo i hi]; exact I2 i hi, fun b hb => ?_, ?_, fun i hi => ?_, fun i i2 hi hi2 => ?_, ?_⟩
  · obtain ⟨a, h1, h2, h3⟩ := I3 b hb
    exact ⟨a, h1, by rw [eg b 1 hb (by decide)]; exact h2, by rw [eo a h1]; exact h3⟩
  · rw [eg 0 0 (by decide) (by decide), eg 1 0 (by decide) (by decide), e 2 (by omega)]
    exact I4
  · by_cases q : i = j
    · rw [q]
      exact hS
    · exact St_c (I5 i hi) (fun k hk => es i k hk (fun z => absurd z q))
  · rw [es i 0 (by omega) (fun _ => by decide), es i2 0 (by omega) (fun _ => by decide), es i 1 (by omega) (fun _ => by decide), es i2 1 (by omega) (fun _ => by decide)]
    exact I6 i i2 hi hi2
  · rw [e 4 (by omega), e 6 (by omega), e 7 (by omega), eg 0 2 (by decide) (by decide), eg 0 3 (by decide) (by decide), eg 0 4 (by decide) (by decide), eg 1 2 (by decide) (by decide), eg 1 3 (by decide) (by decide), eg 1 4 (by decide) (by decide)]
    exact I7
/-- numbers of the giants and of the treaty are changed -/
theorem I_num (I : I_ T n) (hs : ∀ i, 34 ≤ i → T' i = T i) (c1 : ∃ b, b < 2 ∧ T' 3 = nI b) (c2 : ∀ i, i < 8 → ∃ o, o < 3 ∧ oT_ T' i = nI o) (c3 : ∀ b, b < 2 → ∃ a, a < 8 ∧ gT_ T' b 1 = nI a ∧ oT_ T' a ≠ nI 2) (c4 : ∃ c0 c1 c2, c0 + c1 + c2 = 60 ∧ gT_ T' 0 0 = nI c0 ∧ gT_ T' 1 0 = nI c1 ∧ T' 2 = nI c2) (c7 : T' 4 = gT_ T' 0 3 + gT_ T' 1 3 ∧ T' 6 = gT_ T' 0 4 + gT_ T' 1 4 ∧ T' 7 = gT_ T' 0 2 + gT_ T' 1 2) : I_ T' n := by
  obtain ⟨I1, I2, I3, I4, I5, I6, I7⟩ := I
  have es : ∀ i k, sT_ T' i k = sT_ T i k := fun i k => hs _ (by omega)
  exact ⟨c1, c2, c3, c4, fun i hi => St_c (I5 i hi) (fun k _ => es i k), fun i j hi hj => by rw [es, es, es, es]; exact I6 i j hi hj, c7⟩
theorem dpd_n {f : Nat → Int32} (h : St_ f) : ∃ e, e ≤ 9 ∧ 1 ≤ e ∧ dpd_ f = nI e := by
  obtain ⟨-, ⟨s, h1, h2, e⟩, -⟩ := h
  refine ⟨1 + s / 5, by omega, by omega, ?_⟩
  unfold dpd_
  rw [e, pk_div (by omega) (by decide) (by decide), nI_add]
theorem rent_n {f : Nat → Int32} (h : St_ f) : ∃ e, e ≤ 6 ∧ 1 ≤ e ∧ rent_ f = nI e := by
  obtain ⟨-, ⟨s, h1, h2, e⟩, -⟩ := h
  refine ⟨1 + s / 8, by omega, by omega, ?_⟩
  unfold rent_
  rw [e, pk_div (by omega) (by decide) (by decide), nI_add]
theorem more_n {d e : Nat} (hd : d ≤ 20) (he : e ≤ 9) : ∃ x, x ≤ 20 ∧ tMore_ (nI d) (nI e) = nI x := by
  unfold tMore_
  rw [nI_add]
  by_cases h : d + e < 20
  · rw [if_pos (nI_lt h (by decide))]
    exact ⟨_, by omega, rfl⟩
  · rw [if_neg (nI_nlt (by omega) (by omega))]
    exact ⟨20, by decide, rfl⟩
theorem I_dust (I : I_ T n) (hj : j < n) : I_ (tDust_ T j) n := by
  have hS := I.2.2.2.2.1 j hj
  obtain ⟨e, he, -, ee⟩ := dpd_n hS
  refine I_stair I hj (fun i hi => pk_un (by omega)) ?_
  obtain ⟨h1, h2, ⟨d, hd, ed⟩, h4, h5⟩ := hS
  have hx : ∀ k, k < 7 → ¬ k = 3 → sT_ (tDust_ T j) j k = sT_ T j k := fun k hk h => sS_ne (by decide) hk (by omega)
  have h3 : sT_ (tDust_ T j) j 3 = tMore_ (sT_ T j 3) (dpd_ (sT_ T j)) := sS_at (by decide)
  obtain ⟨x, hx2, ex⟩ := more_n hd he
  unfold St_
  rw [hx 0 (by decide) (by decide), hx 1 (by decide) (by decide), hx 2 (by decide) (by decide), hx 4 (by decide) (by decide), hx 5 (by decide) (by decide), hx 6 (by decide) (by decide), h3, ed, ee, ex]
  exact ⟨h1, h2, ⟨x, hx2, rfl⟩, h4, h5⟩
theorem St_end (hS : St_ (sT_ T j)) : St_ (sT_ (tEnd_ T j) j) := by
  obtain ⟨h1, h2, h3, h4, h5⟩ := hS
  unfold St_ tEnd_
  simp only [sS_at (show 6 < 7 by decide), sS_ne (show 6 < 7 by decide) (show 0 < 7 by decide) (show ¬ (j = j ∧ 0 = 6) by omega), sS_ne (show 6 < 7 by decide) (show 1 < 7 by decide) (show ¬ (j = j ∧ 1 = 6) by omega), sS_ne (show 6 < 7 by decide) (show 2 < 7 by decide) (show ¬ (j = j ∧ 2 = 6) by omega), sS_ne (show 6 < 7 by decide) (show 3 < 7 by decide) (show ¬ (j = j ∧ 3 = 6) by omega), sS_ne (show 6 < 7 by decide) (show 4 < 7 by decide) (show ¬ (j = j ∧ 4 = 6) by omega), sS_ne (show 6 < 7 by decide) (show 5 < 7 by decide) (show ¬ (j = j ∧ 5 = 6) by omega), sS_at (show 5 < 7 by decide), sS_ne (show 5 < 7 by decide) (show 0 < 7 by decide) (show ¬ (j = j ∧ 0 = 5) by omega), sS_ne (show 5 < 7 by decide) (show 1 < 7 by decide) (show ¬ (j = j ∧ 1 = 5) by omega), sS_ne (show 5 < 7 by decide) (show 2 < 7 by decide) (show ¬ (j = j ∧ 2 = 5) by omega), sS_ne (show 5 < 7 by decide) (show 3 < 7 by decide) (show ¬ (j = j ∧ 3 = 5) by omega), sS_ne (show 5 < 7 by decide) (show 4 < 7 by decide) (show ¬ (j = j ∧ 4 = 5) by omega)]
  exact ⟨h1, h2, h3, h4, .inl (by simp)⟩
/-- coins go from one giant to the treaty -/
theorem I_pay (I : I_ T n) (hb : b < 2) {r : Nat} (hr : r ≤ 60) (hc : nI r ≤ gT_ T b 0) : I_ (upd (upd (tG_ (tG_ T b 0 (gT_ T b 0 - nI r)) b 3 (gT_ T b 3 + nI r)) 2 (T 2 + nI r)) 4 (T 4 + nI r)) n := by
  have J := I
  obtain ⟨I1, I2, I3, ⟨c0, c1, c2, hs, e0, e1, e2⟩, I5, I6, ⟨a1, a2, a3⟩⟩ := J
  refine I_num I (fun i hi => ?_) ?_ ?_ ?_ ?_ ?_
  · rw [pk_un (by omega), pk_un (by omega)]
    unfold tG_
    rw [pk_un (by omega), pk_un (by omega)]
  · simp [pk_un, sS_at, sS_ne, sG, sO, sN, gG_at, gG_ne, gS, gO, gN, oO_at, oO_ne, oS, oG, oN, nS, nG, nO, and_false, false_and, not_false_eq_true, not_true_eq_false, and_true, true_and]
    exact I1
  · simp [sS_at, sS_ne, sG, sO, sN, gG_at, gG_ne, gS, gO, gN, oO_at, oO_ne, oS, oG, oN, nS, nG, nO, and_false, false_and, not_false_eq_true, not_true_eq_false, and_true, true_and, hb]
    exact I2
  · simp [sS_at, sS_ne, sG, sO, sN, gG_at, gG_ne, gS, gO, gN, oO_at, oO_ne, oS, oG, oN, nS, nG, nO, and_false, false_and, not_false_eq_true, not_true_eq_false, and_true, true_and, hb]
    exact I3
  · rcases (show b = 0 ∨ b = 1 by omega) with rfl | rfl
    · rw [e0] at hc
      have h1 := (nI_leI (by omega) (by omega)).mp hc
      refine ⟨c0 - r, c1, c2 + r, by omega, ?_, ?_, ?_⟩
      · simp [sS_at, sS_ne, sG, sO, sN, gG_at, gG_ne, gS, gO, gN, oO_at, oO_ne, oS, oG, oN, nS, nG, nO, and_false, false_and, not_false_eq_true, not_true_eq_false, and_true, true_and, e0, pk_sub h1]
      · simp [sS_at, sS_ne, sG, sO, sN, gG_at, gG_ne, gS, gO, gN, oO_at, oO_ne, oS, oG, oN, nS, nG, nO, and_false, false_and, not_false_eq_true, not_true_eq_false, and_true, true_and, e1]
      · simp [pk_us, pk_un, e2, nI_add]
    · rw [e1] at hc
      have h1 := (nI_leI (by omega) (by omega)).mp hc
      refine ⟨c0, c1 - r, c2 + r, by omega, ?_, ?_, ?_⟩
      · simp [sS_at, sS_ne, sG, sO, sN, gG_at, gG_ne, gS, gO, gN, oO_at, oO_ne, oS, oG, oN, nS, nG, nO, and_false, false_and, not_false_eq_true, not_true_eq_false, and_true, true_and, e0]
      · simp [sS_at, sS_ne, sG, sO, sN, gG_at, gG_ne, gS, gO, gN, oO_at, oO_ne, oS, oG, oN, nS, nG, nO, and_false, false_and, not_false_eq_true, not_true_eq_false, and_true, true_and, e1, pk_sub h1]
      · simp [pk_us, pk_un, e2, nI_add]
  · rcases (show b = 0 ∨ b = 1 by omega) with rfl | rfl
    · refine ⟨?_, ?_, ?_⟩
      · simp [sS_at, sS_ne, sG, sO, sN, gG_at, gG_ne, gS, gO, gN, oO_at, oO_ne, oS, oG, oN, nS, nG, nO, and_false, false_and, not_false_eq_true, not_true_eq_false, and_true, true_and, pk_us, a1]
        rw [Int32.add_assoc, Int32.add_comm (gT_ T 1 3), ← Int32.add_assoc]
      · simp [sS_at, sS_ne, sG, sO, sN, gG_at, gG_ne, gS, gO, gN, oO_at, oO_ne, oS, oG, oN, nS, nG, nO, and_false, false_and, not_false_eq_true, not_true_eq_false, and_true, true_and, pk_un, a2]
      · simp [sS_at, sS_ne, sG, sO, sN, gG_at, gG_ne, gS, gO, gN, oO_at, oO_ne, oS, oG, oN, nS, nG, nO, and_false, false_and, not_false_eq_true, not_true_eq_false, and_true, true_and, pk_un, a3]
    · refine ⟨?_, ?_, ?_⟩
      · simp [sS_at, sS_ne, sG, sO, sN, gG_at, gG_ne, gS, gO, gN, oO_at, oO_ne, oS, oG, oN, nS, nG, nO, and_false, false_and, not_false_eq_true, not_true_eq_false, and_true, true_and, pk_us, a1]
        rw [Int32.add_assoc]
      · simp [sS_at, sS_ne, sG, sO, sN, gG_at, gG_ne, gS, gO, gN, oO_at, oO_ne, oS, oG, oN, nS, nG, nO, and_false, false_and, not_false_eq_true, not_true_eq_false, and_true, true_and, pk_un, a2]
      · simp [sS_at, sS_ne, sG, sO, sN, gG_at, gG_ne, gS, gO, gN, oO_at, oO_ne, oS, oG, oN, nS, nG, nO, and_false, false_and, not_false_eq_true, not_true_eq_false, and_true, true_and, pk_un, a3]
theorem I_rent (I : I_ T n) (hj : j < n) : I_ (tRent_ T j) n := by
  have hS := I.2.2.2.2.1 j hj
  unfold tRent_
  split
  · next h1 =>
    rcases hS.2.2.2.2 with ⟨e5, e6⟩ | ⟨b, y, hb, hy1, hy2, e5, e6⟩
    · rw [e5] at h1
      exact absurd h1 (by decide)
    · rw [e5, cl_nI (by omega)]
      split
      · next h2 =>
        obtain ⟨r, hr, -, er⟩ := rent_n hS
        have I2 := I_pay I hb (show r ≤ 60 by omega) (er ▸ h2)
        have eG : tGive_ T j b = tS_ (upd (upd (tG_ (tG_ T b 0 (gT_ T b 0 - nI r)) b 3 (gT_ T b 3 + nI r)) 2 (T 2 + nI r)) 4 (T 4 + nI r)) j 6 (sT_ T j 6 - nI 1) := by
          unfold tGive_
          rw [er]
        have hS2 : ∀ k, sT_ (upd (upd (tG_ (tG_ T b 0 (gT_ T b 0 - nI r)) b 3 (gT_ T b 3 + nI r)) 2 (T 2 + nI r)) 4 (T 4 + nI r)) j k = sT_ T j k := fun k => by simp [sS_at, sS_ne, sG, sO, sN, gG_at, gG_ne, gS, gO, gN, oO_at, oO_ne, oS, oG, oN, nS, nG, nO, and_false, false_and, not_false_eq_true, not_true_eq_false, and_true, true_and, hb]
        rw [eG]
        generalize (upd (upd (tG_ (tG_ T b 0 (gT_ T b 0 - nI r)) b 3 (gT_ T b 3 + nI r)) 2 (T 2 + nI r)) 4 (T 4 + nI r)) = U at I2 hS2 ⊢
        have hS3 := I2.2.2.2.2.1 j hj
        split
        · refine I_stair I2 hj (fun i hi => ?_) ?_
          · unfold tEnd_ tS_
            rw [pk_un (by omega), pk_un (by omega), pk_un (by omega)]
          · have e7 : tEnd_ (tS_ U j 6 (sT_ T j 6 - nI 1)) j = tEnd_ U j := by
              unfold tEnd_ tS_
              rw [upd_c (a := 34 + 7 * j + 6) (b := 34 + 7 * j + 5) (by omega), upd_u]
            rw [e7]
            exact St_end hS3
        · next h3 =>
          rw [e6, pk_sub hy1] at h3 ⊢
          have hy3 : ¬ y - 1 = 0 := fun q => h3 (by rw [q])
          refine I_stair I2 hj (fun i hi => ?_) ?_
          · unfold tS_
            rw [pk_un (by omega)]
          · obtain ⟨h1, h2, h3, h4, h5⟩ := hS3
            have hx : ∀ k, k < 7 → ¬ k = 6 → sT_ (tS_ U j 6 (nI (y - 1))) j k = sT_ U j k := fun k hk h => sS_ne (by decide) hk (by omega)
            unfold St_
            rw [hx 0 (by decide) (by decide), hx 1 (by decide) (by decide), hx 2 (by decide) (by decide), hx 3 (by decide) (by decide), hx 4 (by decide) (by decide), hx 5 (by decide) (by decide), sS_at (by decide), hS2 5, e5]
            exact ⟨h1, h2, h3, h4, .inr ⟨b, y - 1, hb, by omega, by omega, rfl, rfl⟩⟩
      · refine I_stair I hj (fun i hi => ?_) (St_end hS)
        unfold tEnd_ tS_
        rw [pk_un (by omega), pk_un (by omega)]
  · exact I
theorem I_days (I : I_ T n) : ∀ i, i ≤ n → I_ (tDays_ T i).2 n
  | 0, _ => I
  | i + 1, hi => I_rent (I_dust (I_days I i (by omega)) (by omega)) (by omega)
theorem I_day (I : I_ T n) : I_ (tDay_ T n) n := by
  have J := I_days I n (Nat.le_refl n)
  unfold tDay_
  generalize (tDays_ T n).2 = U at J ⊢
  have K := J
  obtain ⟨⟨b, hb, eb⟩, I2, I3, I4, I5, I6, I7⟩ := K
  refine I_num J (fun i hi => ?_) ⟨1 - b, by omega, ?_⟩ ?_ ?_ ?_ ?_
  · rw [pk_un (by omega), pk_un (by omega)]
  · rw [pk_us, eb, u1 hb]
  · simp [sS_at, sS_ne, sG, sO, sN, gG_at, gG_ne, gS, gO, gN, oO_at, oO_ne, oS, oG, oN, nS, nG, nO, and_false, false_and, not_false_eq_true, not_true_eq_false, and_true, true_and]
    exact I2
  · simp [sS_at, sS_ne, sG, sO, sN, gG_at, gG_ne, gS, gO, gN, oO_at, oO_ne, oS, oG, oN, nS, nG, nO, and_false, false_and, not_false_eq_true, not_true_eq_false, and_true, true_and]
    exact I3
  · simp [sS_at, sS_ne, sG, sO, sN, gG_at, gG_ne, gS, gO, gN, oO_at, oO_ne, oS, oG, oN, nS, nG, nO, and_false, false_and, not_false_eq_true, not_true_eq_false, and_true, true_and, pk_un]
    exact I4
  · simp [sS_at, sS_ne, sG, sO, sN, gG_at, gG_ne, gS, gO, gN, oO_at, oO_ne, oS, oG, oN, nS, nG, nO, and_false, false_and, not_false_eq_true, not_true_eq_false, and_true, true_and, pk_un]
    exact I7
theorem I_halve (I : I_ T n) (hj : j < n) (h3 : ¬ sT_ T j 4 = nI 3) : I_ (tHalve_ T j) n := by
  have hS := I.2.2.2.2.1 j hj
  have I2 : I_ (tS_ (tS_ T j 2 ((sT_ T j 2 + nI 1) / nI 2)) j 4 (sT_ T j 4 + nI 1)) n := by
    refine I_stair I hj (fun i hi => ?_) ?_
    · unfold tS_
      rw [pk_un (by omega), pk_un (by omega)]
    · obtain ⟨h1, ⟨s, hs1, hs2, es⟩, h4, ⟨v, hv, ev⟩, h6⟩ := hS
      have hx : ∀ k, k < 7 → ¬ k = 2 → ¬ k = 4 → sT_ (tS_ (tS_ T j 2 ((sT_ T j 2 + nI 1) / nI 2)) j 4 (sT_ T j 4 + nI 1)) j k = sT_ T j k := fun k hk ha hb => by rw [sS_ne (by decide) hk (by omega), sS_ne (by decide) hk (by omega)]
      have hv3 : ¬ v = 3 := fun q => h3 (by rw [ev, q])
      unfold St_
      rw [hx 0 (by decide) (by decide) (by decide), hx 1 (by decide) (by decide) (by decide), hx 3 (by decide) (by decide) (by decide), hx 5 (by decide) (by decide) (by decide), hx 6 (by decide) (by decide) (by decide), sS_at (by decide), sS_ne (by decide) (by decide) (by omega), sS_at (by decide), es, ev, nI_add, nI_add, pk_div (by omega) (by decide) (by decide)]
      exact ⟨h1, ⟨_, by omega, by omega, rfl⟩, h4, ⟨v + 1, by omega, rfl⟩, h6⟩
  have J := I2
  obtain ⟨I1, I2', I3, I4, I5, I6, I7⟩ := J
  unfold tHalve_
  generalize (tS_ (tS_ T j 2 ((sT_ T j 2 + nI 1) / nI 2)) j 4 (sT_ T j 4 + nI 1)) = U at *
  refine I_num I2 (fun i hi => pk_un (by omega)) ?_ ?_ ?_ ?_ ?_
  · rw [pk_un (by decide)]
    exact I1
  · simp [sS_at, sS_ne, sG, sO, sN, gG_at, gG_ne, gS, gO, gN, oO_at, oO_ne, oS, oG, oN, nS, nG, nO, and_false, false_and, not_false_eq_true, not_true_eq_false, and_true, true_and]
    exact I2'
  · simp [sS_at, sS_ne, sG, sO, sN, gG_at, gG_ne, gS, gO, gN, oO_at, oO_ne, oS, oG, oN, nS, nG, nO, and_false, false_and, not_false_eq_true, not_true_eq_false, and_true, true_and]
    exact I3
  · simp [sS_at, sS_ne, sG, sO, sN, gG_at, gG_ne, gS, gO, gN, oO_at, oO_ne, oS, oG, oN, nS, nG, nO, and_false, false_and, not_false_eq_true, not_true_eq_false, and_true, true_and, pk_un]
    exact I4
  · simp [sS_at, sS_ne, sG, sO, sN, gG_at, gG_ne, gS, gO, gN, oO_at, oO_ne, oS, oG, oN, nS, nG, nO, and_false, false_and, not_false_eq_true, not_true_eq_false, and_true, true_and, pk_un]
    exact I7
theorem I_lease (I : I_ T n) (hj : j < n) (hb : b < 2) {y : Nat} (h1 : 1 ≤ y) (h2 : y ≤ 9) : I_ (tLease_ T j (nI b) (nI y)) n := by
  have hS := I.2.2.2.2.1 j hj
  refine I_stair I hj (fun i hi => ?_) ?_
  · unfold tLease_ tS_
    rw [pk_un (by omega), pk_un (by omega)]
  · obtain ⟨a1, a2, a3, a4, a5⟩ := hS
    have hx : ∀ k, k < 7 → ¬ k = 5 → ¬ k = 6 → sT_ (tLease_ T j (nI b) (nI y)) j k = sT_ T j k := fun k hk ha hb => by
      unfold tLease_
      rw [sS_ne (by decide) hk (by omega), sS_ne (by decide) hk (by omega)]
    unfold St_
    rw [hx 0 (by decide) (by decide) (by decide), hx 1 (by decide) (by decide) (by decide), hx 2 (by decide) (by decide) (by decide), hx 3 (by decide) (by decide) (by decide), hx 4 (by decide) (by decide) (by decide)]
    unfold tLease_
    rw [sS_at (by decide), sS_ne (by decide) (by decide) (by omega), sS_at (by decide)]
    exact ⟨a1, a2, a3, a4, .inr ⟨b, y, hb, h1, h2, rfl, rfl⟩⟩
theorem I_free (I : I_ T n) (hi : i < 8) (hw : qW_ T (nI i) = m1_) : I_ (tFree_ T i) n := by
  have J := I
  obtain ⟨I1, I2, I3, I4, I5, I6, I7⟩ := J
  unfold tFree_
  refine I_num I (fun k hk => pk_un (by omega)) ?_ (fun k hk => ?_) (fun b hb => ?_) ?_ ?_
  · rw [nO (by decide)]
    exact I1
  · by_cases e : k = i
    · rw [e, oO_at]
      exact ⟨2, by decide, rfl⟩
    · rw [oO_ne e]
      exact I2 k hk
  · obtain ⟨a, h1, h2, h3⟩ := I3 b hb
    refine ⟨a, h1, by rw [gO hb (by decide)]; exact h2, ?_⟩
    have ha : ¬ a = i := fun q => by
      subst q
      unfold qW_ at hw
      rcases (show b = 0 ∨ b = 1 by omega) with rfl | rfl
      · rw [if_pos h2] at hw
        exact absurd hw (by decide)
      · rw [if_pos h2] at hw
        split at hw <;> exact absurd hw (by decide)
    rw [oO_ne ha]
    exact h3
  · simp [sS_at, sS_ne, sG, sO, sN, gG_at, gG_ne, gS, gO, gN, oO_at, oO_ne, oS, oG, oN, nS, nG, nO, and_false, false_and, not_false_eq_true, not_true_eq_false, and_true, true_and]
    exact I4
  · simp [sS_at, sS_ne, sG, sO, sN, gG_at, gG_ne, gS, gO, gN, oO_at, oO_ne, oS, oG, oN, nS, nG, nO, and_false, false_and, not_false_eq_true, not_true_eq_false, and_true, true_and]
    exact I7
/-- coins of the two giants -/
theorem I_coins (I : I_ T n) (hs : ∀ i, ¬ i = 12 → ¬ i = 17 → ¬ i = 2 → ¬ i = 5 → ¬ i = 8 → T' i = T i) (c4 : ∃ c0 c1 c2, c0 + c1 + c2 = 60 ∧ T' 12 = nI c0 ∧ T' 17 = nI c1 ∧ T' 2 = nI c2) : I_ T' n := by
  have J := I
  obtain ⟨I1, I2, I3, I4, I5, I6, I7⟩ := J
  have eo : ∀ i, oT_ T' i = oT_ T i := fun i => hs _ (by omega) (by omega) (by omega) (by omega) (by omega)
  have eg : ∀ b k, b < 2 → 1 ≤ k → k < 5 → gT_ T' b k = gT_ T b k := fun b k hb h1 hk => hs _ (by omega) (by omega) (by omega) (by omega) (by omega)
  refine I_num I (fun i hi => hs _ (by omega) (by omega) (by omega) (by omega) (by omega)) ?_ ?_ ?_ ?_ ?_
  · rw [hs 3 (by decide) (by decide) (by decide) (by decide) (by decide)]
    exact I1
  · simp only [eo]
    exact I2
  · intro b hb
    obtain ⟨a, h1, h2, h3⟩ := I3 b hb
    exact ⟨a, h1, by rw [eg b 1 hb (by decide) (by decide)]; exact h2, by rw [eo]; exact h3⟩
  · exact c4
  · rw [hs 4 (by decide) (by decide) (by decide) (by decide) (by decide), hs 6 (by decide) (by decide) (by decide) (by decide) (by decide), hs 7 (by decide) (by decide) (by decide) (by decide) (by decide), eg 0 2 (by decide) (by decide) (by decide), eg 0 3 (by decide) (by decide) (by decide), eg 0 4 (by decide) (by decide) (by decide), eg 1 2 (by decide) (by decide) (by decide), eg 1 3 (by decide) (by decide) (by decide), eg 1 4 (by decide) (by decide) (by decide)]
    exact I7
theorem levyC_n (I : I_ T n) (hb : b < 2) (hj : j < n) : ∃ c, c ≤ 60 ∧ tLevyC_ T b j = nI c ∧ nI c ≤ gT_ T (1 - b) 0 := by
  obtain ⟨-, -, -, ⟨c0, c1, c2, hs, e0, e1, e2⟩, I5, -⟩ := I
  obtain ⟨-, -, ⟨d, hd, ed⟩, -⟩ := I5 j hj
  unfold tLevyC_
  have hg : ∃ c, c ≤ 60 ∧ gT_ T (1 - b) 0 = nI c := by
    rcases (show b = 0 ∨ b = 1 by omega) with rfl | rfl
    · exact ⟨c1, by omega, e1⟩
    · exact ⟨c0, by omega, e0⟩
  obtain ⟨c, hc, ec⟩ := hg
  rw [ec, ed, pk_div (by omega) (by decide) (by decide)]
  by_cases h : c < d / 4
  · rw [if_pos (nI_lt h (by omega))]
    exact ⟨c, hc, rfl, Int32.le_refl _⟩
  · rw [if_neg (nI_nlt (by omega) (by omega))]
    exact ⟨d / 4, by omega, rfl, nI_le (by omega) (by omega)⟩
theorem I_levy (I : I_ T n) (hb : b < 2) (hj : j < n) : I_ (tLevy_ T b j (tLevyC_ T b j)) n := by
  obtain ⟨c, hc, ec, hle⟩ := levyC_n I hb hj
  rw [ec]
  have hS := I.2.2.2.2.1 j hj
  have I2 : I_ (upd (tG_ (tG_ T (1 - b) 0 (gT_ T (1 - b) 0 - nI c)) b 0 (gT_ T b 0 + nI c)) 5 (T 5 + nI c)) n := by
    refine I_coins I (fun i h1 h2 h3 h4 h5 => ?_) ?_
    · unfold tG_
      rw [pk_un h4, pk_un (by omega), pk_un (by omega)]
    · obtain ⟨-, -, -, ⟨c0, c1, c2, hs, e0, e1, e2⟩, -⟩ := I
      unfold gT_ at e0 e1 hle ⊢
      unfold tG_
      rcases (show b = 0 ∨ b = 1 by omega) with rfl | rfl
      · rw [show 12 + 5 * (1 - 0) + 0 = 17 from rfl, show 12 + 5 * 0 + 0 = 12 from rfl] at *
        rw [e1] at hle ⊢
        have h1 := (nI_leI (by omega) (by omega)).mp hle
        refine ⟨c0 + c, c1 - c, c2, by omega, ?_, ?_, ?_⟩
        · rw [pk_un (by decide), pk_us, e0, nI_add]
        · rw [pk_un (by decide), pk_un (by decide), pk_us, pk_sub h1]
        · rw [pk_un (by decide), pk_un (by decide), pk_un (by decide), e2]
      · rw [show 12 + 5 * (1 - 1) + 0 = 12 from rfl, show 12 + 5 * 1 + 0 = 17 from rfl] at *
        rw [e0] at hle ⊢
        have h1 := (nI_leI (by omega) (by omega)).mp hle
        refine ⟨c0 - c, c1 + c, c2, by omega, ?_, ?_, ?_⟩
        · rw [pk_un (by decide), pk_un (by decide), pk_us, pk_sub h1]
        · rw [pk_un (by decide), pk_us, e1, nI_add]
        · rw [pk_un (by decide), pk_un (by decide), pk_un (by decide), e2]
  have hS2 : ∀ k, sT_ (upd (tG_ (tG_ T (1 - b) 0 (gT_ T (1 - b) 0 - nI c)) b 0 (gT_ T b 0 + nI c)) 5 (T 5 + nI c)) j k = sT_ T j k := fun k => by
    have hb2 : 1 - b < 2 := by omega
    simp [sS_at, sS_ne, sG, sO, sN, gG_at, gG_ne, gS, gO, gN, oO_at, oO_ne, oS, oG, oN, nS, nG, nO, and_false, false_and, not_false_eq_true, not_true_eq_false, and_true, true_and, hb, hb2]
  unfold tLevy_
  generalize (upd (tG_ (tG_ T (1 - b) 0 (gT_ T (1 - b) 0 - nI c)) b 0 (gT_ T b 0 + nI c)) 5 (T 5 + nI c)) = U at *
  refine I_stair I2 hj (fun i hi => pk_un (by omega)) ?_
  obtain ⟨a1, a2, a3, a4, a5⟩ := hS
  have hx : ∀ k, k < 7 → ¬ k = 3 → sT_ (tS_ U j 3 (nI 0)) j k = sT_ T j k := fun k hk h => by rw [sS_ne (by decide) hk (by omega), hS2]
  unfold St_
  rw [hx 0 (by decide) (by decide), hx 1 (by decide) (by decide), hx 2 (by decide) (by decide), hx 4 (by decide) (by decide), hx 5 (by decide) (by decide), hx 6 (by decide) (by decide), sS_at (by decide)]
  exact ⟨a1, a2, ⟨0, by decide, rfl⟩, a4, a5⟩
end IN

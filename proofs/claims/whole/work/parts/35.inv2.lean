section IM
variable {T T' : Nat → Int32} {i j k b n : Nat}
theorem I_own (I : I_ T n) (hi : i < 8) (hb : b < 2) : I_ (tO_ T i (nI b)) n := by
  have J := I
  obtain ⟨I1, I2, I3, I4, I5, I6, I7⟩ := J
  have hb2 : ¬ nI b = nI 2 := fun q => by
    rw [nI_eq (by omega) (by decide)] at q
    omega
  refine I_num I (fun k hk => pk_un (by omega)) ?_ (fun k hk => ?_) (fun b2 hb2' => ?_) ?_ ?_
  · rw [nO (by decide)]
    exact I1
  · by_cases e : k = i
    · rw [e, oO_at]
      exact ⟨b, by omega, rfl⟩
    · rw [oO_ne e]
      exact I2 k hk
  · obtain ⟨a, h1, h2, h3⟩ := I3 b2 hb2'
    refine ⟨a, h1, by rw [gO hb2' (by decide)]; exact h2, ?_⟩
    by_cases e : a = i
    · rw [e, oO_at]
      exact hb2
    · rw [oO_ne e]
      exact h3
  · simp [sS_at, sS_ne, sG, sO, sN, gG_at, gG_ne, gS, gO, gN, oO_at, oO_ne, oS, oG, oN, nS, nG, nO, and_false, false_and, not_false_eq_true, not_true_eq_false, and_true, true_and]
    exact I4
  · simp [sS_at, sS_ne, sG, sO, sN, gG_at, gG_ne, gS, gO, gN, oO_at, oO_ne, oS, oG, oN, nS, nG, nO, and_false, false_and, not_false_eq_true, not_true_eq_false, and_true, true_and]
    exact I7
theorem I_c12 (I : I_ T n) : ∃ c0 c1 c2, c0 + c1 + c2 = 60 ∧ T 12 = nI c0 ∧ T 17 = nI c1 ∧ T 2 = nI c2 := I.2.2.2.1
theorem I_take (I : I_ T n) (hb : b < 2) (hi : i < 8) (hp : ¬ gT_ T b 0 < price_ T i) : I_ (tTake_ T b i) n := by
  have hX : I_ (if oT_ T i = nI 2 then tPay_ T b (price_ T i) else tG_ (tPay_ T b (price_ T i)) (1 - b) 0 (gT_ T (1 - b) 0 + nI 5)) n := by
    obtain ⟨c0, c1, c2, hs, e0, e1, e2⟩ := I_c12 I
    unfold price_ at hp ⊢
    unfold gT_ at hp ⊢
    by_cases ho : oT_ T i = nI 2
    · rw [if_pos ho] at hp ⊢
      rw [if_pos ho]
      have hp2 := Int32.not_lt.mp hp
      unfold tPay_ tG_ gT_
      rcases (show b = 0 ∨ b = 1 by omega) with rfl | rfl
      · rw [show 12 + 5 * 0 + 0 = 12 from rfl] at *
        rw [e0] at hp2 ⊢
        have h1 := (nI_leI (by omega) (by omega)).mp hp2
        refine I_coins I (fun i h1 h2 h3 h4 h5 => by rw [pk_un h3, pk_un h1]) ⟨c0 - 5, c1, c2 + 5, by omega, ?_, ?_, ?_⟩
        · rw [pk_un (by decide), pk_us, pk_sub h1]
        · rw [pk_un (by decide), pk_un (by decide), e1]
        · rw [pk_us, e2, nI_add]
      · rw [show 12 + 5 * 1 + 0 = 17 from rfl] at *
        rw [e1] at hp2 ⊢
        have h1 := (nI_leI (by omega) (by omega)).mp hp2
        refine I_coins I (fun i h1 h2 h3 h4 h5 => by rw [pk_un h3, pk_un h2]) ⟨c0, c1 - 5, c2 + 5, by omega, ?_, ?_, ?_⟩
        · rw [pk_un (by decide), pk_un (by decide), e0]
        · rw [pk_un (by decide), pk_us, pk_sub h1]
        · rw [pk_us, e2, nI_add]
    · rw [if_neg ho] at hp ⊢
      rw [if_neg ho]
      have hp2 := Int32.not_lt.mp hp
      unfold tPay_ tG_ gT_
      rcases (show b = 0 ∨ b = 1 by omega) with rfl | rfl
      · rw [show 12 + 5 * (1 - 0) + 0 = 17 from rfl, show 12 + 5 * 0 + 0 = 12 from rfl] at *
        rw [e0] at hp2 ⊢
        have h1 := (nI_leI (by omega) (by omega)).mp hp2
        refine I_coins I (fun i h1 h2 h3 h4 h5 => by rw [pk_un h2, pk_un h3, pk_un h1]) ⟨c0 - 10, c1 + 5, c2 + 5, by omega, ?_, ?_, ?_⟩
        · rw [pk_un (by decide), pk_un (by decide), pk_us, pk_sub h1]
        · rw [pk_us, e1, nI_add]
        · rw [pk_un (by decide), pk_us, e2, nI_add]
      · rw [show 12 + 5 * (1 - 1) + 0 = 12 from rfl, show 12 + 5 * 1 + 0 = 17 from rfl] at *
        rw [e1] at hp2 ⊢
        have h1 := (nI_leI (by omega) (by omega)).mp hp2
        refine I_coins I (fun i h1 h2 h3 h4 h5 => by rw [pk_un h1, pk_un h3, pk_un h2]) ⟨c0 + 5, c1 - 10, c2 + 5, by omega, ?_, ?_, ?_⟩
        · rw [pk_us, e0, nI_add]
        · rw [pk_un (by decide), pk_un (by decide), pk_us, pk_sub h1]
        · rw [pk_un (by decide), pk_us, e2, nI_add]
  unfold tTake_
  generalize (if oT_ T i = nI 2 then tPay_ T b (price_ T i) else tG_ (tPay_ T b (price_ T i)) (1 - b) 0 (gT_ T (1 - b) 0 + nI 5)) = U at hX ⊢
  have hY := I_own hX hi hb
  obtain ⟨c0, c1, c2, hs, e0, e1, e2⟩ := I_c12 hY
  exact I_coins hY (fun i h1 h2 h3 h4 h5 => pk_un h5) ⟨c0, c1, c2, hs, by rw [pk_un (by decide), e0], by rw [pk_un (by decide), e1], by rw [pk_un (by decide), e2]⟩
theorem I_land (I : I_ T n) (hb : b < 2) {c : Nat} (hc : c < 8) (ho : ¬ oT_ T c = nI 2) : I_ (tG_ T b 1 (nI c)) n := by
  have J := I
  obtain ⟨I1, I2, I3, I4, I5, I6, I7⟩ := J
  refine I_num I (fun k hk => pk_un (by omega)) ?_ ?_ (fun b2 hb2 => ?_) ?_ ?_
  · rw [nG (by decide)]
    exact I1
  · simp [sS_at, sS_ne, sG, sO, sN, gG_at, gG_ne, gS, gO, gN, oO_at, oO_ne, oS, oG, oN, nS, nG, nO, and_false, false_and, not_false_eq_true, not_true_eq_false, and_true, true_and, hb]
    exact I2
  · by_cases e : b2 = b
    · rw [e, gG_at]
      exact ⟨c, hc, rfl, by rw [oG hb (by decide)]; exact ho⟩
    · rw [gG_ne (by decide) (by decide) (by omega)]
      obtain ⟨a, h1, h2, h3⟩ := I3 b2 hb2
      exact ⟨a, h1, h2, by rw [oG hb (by decide)]; exact h3⟩
  · simp [sS_at, sS_ne, sG, sO, sN, gG_at, gG_ne, gS, gO, gN, oO_at, oO_ne, oS, oG, oN, nS, nG, nO, and_false, false_and, not_false_eq_true, not_true_eq_false, and_true, true_and]
    exact I4
  · simp [sS_at, sS_ne, sG, sO, sN, gG_at, gG_ne, gS, gO, gN, oO_at, oO_ne, oS, oG, oN, nS, nG, nO, and_false, false_and, not_false_eq_true, not_true_eq_false, and_true, true_and]
    exact I7
theorem I_toll (I : I_ T n) (hb : b < 2) (hc : nI 0 < gT_ T b 0) : I_ (tToll_ T b) n := by
  have J := I
  obtain ⟨I1, I2, I3, I4, I5, I6, I7⟩ := J
  obtain ⟨c0, c1, c2, hs, e0, e1, e2⟩ := I4
  obtain ⟨a1, a2, a3⟩ := I7
  have hb2 : 1 - b < 2 := by omega
  unfold tToll_
  refine I_num I (fun k hk => ?_) ?_ ?_ ?_ ?_ ?_
  · unfold tG_
    rw [pk_un (by omega), pk_un (by omega), pk_un (by omega), pk_un (by omega)]
  · simp [pk_un, sS_at, sS_ne, sG, sO, sN, gG_at, gG_ne, gS, gO, gN, oO_at, oO_ne, oS, oG, oN, nS, nG, nO, and_false, false_and, not_false_eq_true, not_true_eq_false, and_true, true_and]
    exact I1
  · simp [sS_at, sS_ne, sG, sO, sN, gG_at, gG_ne, gS, gO, gN, oO_at, oO_ne, oS, oG, oN, nS, nG, nO, and_false, false_and, not_false_eq_true, not_true_eq_false, and_true, true_and, hb, hb2]
    exact I2
  · simp [sS_at, sS_ne, sG, sO, sN, gG_at, gG_ne, gS, gO, gN, oO_at, oO_ne, oS, oG, oN, nS, nG, nO, and_false, false_and, not_false_eq_true, not_true_eq_false, and_true, true_and, hb, hb2]
    exact I3
  · rcases (show b = 0 ∨ b = 1 by omega) with rfl | rfl
    · rw [e0] at hc
      have h1 := (nI_ltI (by decide) (by omega)).mp hc
      refine ⟨c0 - 1, c1 + 1, c2, by omega, ?_, ?_, ?_⟩
      · simp [sS_at, sS_ne, sG, sO, sN, gG_at, gG_ne, gS, gO, gN, oO_at, oO_ne, oS, oG, oN, nS, nG, nO, and_false, false_and, not_false_eq_true, not_true_eq_false, and_true, true_and, e0, pk_sub (show 1 ≤ c0 by omega)]
      · simp [sS_at, sS_ne, sG, sO, sN, gG_at, gG_ne, gS, gO, gN, oO_at, oO_ne, oS, oG, oN, nS, nG, nO, and_false, false_and, not_false_eq_true, not_true_eq_false, and_true, true_and, e1, nI_add]
      · simp [pk_un, sS_at, sS_ne, sG, sO, sN, gG_at, gG_ne, gS, gO, gN, oO_at, oO_ne, oS, oG, oN, nS, nG, nO, and_false, false_and, not_false_eq_true, not_true_eq_false, and_true, true_and, e2]
    · rw [e1] at hc
      have h1 := (nI_ltI (by decide) (by omega)).mp hc
      refine ⟨c0 + 1, c1 - 1, c2, by omega, ?_, ?_, ?_⟩
      · simp [sS_at, sS_ne, sG, sO, sN, gG_at, gG_ne, gS, gO, gN, oO_at, oO_ne, oS, oG, oN, nS, nG, nO, and_false, false_and, not_false_eq_true, not_true_eq_false, and_true, true_and, e0, nI_add]
      · simp [sS_at, sS_ne, sG, sO, sN, gG_at, gG_ne, gS, gO, gN, oO_at, oO_ne, oS, oG, oN, nS, nG, nO, and_false, false_and, not_false_eq_true, not_true_eq_false, and_true, true_and, e1, pk_sub (show 1 ≤ c1 by omega)]
      · simp [pk_un, sS_at, sS_ne, sG, sO, sN, gG_at, gG_ne, gS, gO, gN, oO_at, oO_ne, oS, oG, oN, nS, nG, nO, and_false, false_and, not_false_eq_true, not_true_eq_false, and_true, true_and, e2]
  · rcases (show b = 0 ∨ b = 1 by omega) with rfl | rfl
    · refine ⟨?_, ?_, ?_⟩
      · simp [sS_at, sS_ne, sG, sO, sN, gG_at, gG_ne, gS, gO, gN, oO_at, oO_ne, oS, oG, oN, nS, nG, nO, and_false, false_and, not_false_eq_true, not_true_eq_false, and_true, true_and, pk_un, a1]
      · simp [sS_at, sS_ne, sG, sO, sN, gG_at, gG_ne, gS, gO, gN, oO_at, oO_ne, oS, oG, oN, nS, nG, nO, and_false, false_and, not_false_eq_true, not_true_eq_false, and_true, true_and, pk_us, a2]
        rw [Int32.add_assoc]
      · simp [sS_at, sS_ne, sG, sO, sN, gG_at, gG_ne, gS, gO, gN, oO_at, oO_ne, oS, oG, oN, nS, nG, nO, and_false, false_and, not_false_eq_true, not_true_eq_false, and_true, true_and, pk_un, a3]
    · refine ⟨?_, ?_, ?_⟩
      · simp [sS_at, sS_ne, sG, sO, sN, gG_at, gG_ne, gS, gO, gN, oO_at, oO_ne, oS, oG, oN, nS, nG, nO, and_false, false_and, not_false_eq_true, not_true_eq_false, and_true, true_and, pk_un, a1]
      · simp [sS_at, sS_ne, sG, sO, sN, gG_at, gG_ne, gS, gO, gN, oO_at, oO_ne, oS, oG, oN, nS, nG, nO, and_false, false_and, not_false_eq_true, not_true_eq_false, and_true, true_and, pk_us, a2]
        rw [Int32.add_assoc, Int32.add_comm (gT_ T 1 4), ← Int32.add_assoc]
      · simp [sS_at, sS_ne, sG, sO, sN, gG_at, gG_ne, gS, gO, gN, oO_at, oO_ne, oS, oG, oN, nS, nG, nO, and_false, false_and, not_false_eq_true, not_true_eq_false, and_true, true_and, pk_un, a3]
theorem I_step (I : I_ T n) (hb : b < 2) (hj : j < n) (br : Int32) : I_ (tStep_ T b j br) n := by
  have hS := I.2.2.2.2.1 j hj
  have I2 : I_ (tS_ T j 3 (sT_ T j 3 - sT_ T j 3 / nI 2)) n := by
    refine I_stair I hj (fun i hi => pk_un (by omega)) ?_
    obtain ⟨a1, a2, ⟨d, hd, ed⟩, a4, a5⟩ := hS
    have hx : ∀ v k, k < 7 → ¬ k = 3 → sT_ (tS_ T j 3 v) j k = sT_ T j k := fun v k hk h => sS_ne (by decide) hk (by omega)
    unfold St_
    rw [hx _ 0 (by decide) (by decide), hx _ 1 (by decide) (by decide), hx _ 2 (by decide) (by decide), hx _ 4 (by decide) (by decide), hx _ 5 (by decide) (by decide), hx _ 6 (by decide) (by decide), sS_at (by decide), ed, pk_div (by omega) (by decide) (by decide), pk_sub (by omega)]
    exact ⟨a1, a2, ⟨_, by omega, rfl⟩, a4, a5⟩
  have hg : ∀ k, k < 5 → gT_ (tS_ T j 3 (sT_ T j 3 - sT_ T j 3 / nI 2)) b k = gT_ T b k := fun k hk => gS hb hk
  have h7 : (tS_ T j 3 (sT_ T j 3 - sT_ T j 3 / nI 2)) 7 = T 7 := nS (by decide)
  unfold tStep_
  rw [← hg 2 (by decide), ← h7]
  generalize tS_ T j 3 (sT_ T j 3 - sT_ T j 3 / nI 2) = U at I2 ⊢
  have J := I2
  obtain ⟨I1, I2', I3, I4, I5, I6, ⟨a1, a2, a3⟩⟩ := J
  refine I_num I2 (fun k hk => ?_) ?_ ?_ ?_ ?_ ?_
  · unfold tG_
    rw [pk_un (by omega), pk_un (by omega)]
  · simp [pk_un, sS_at, sS_ne, sG, sO, sN, gG_at, gG_ne, gS, gO, gN, oO_at, oO_ne, oS, oG, oN, nS, nG, nO, and_false, false_and, not_false_eq_true, not_true_eq_false, and_true, true_and]
    exact I1
  · simp [sS_at, sS_ne, sG, sO, sN, gG_at, gG_ne, gS, gO, gN, oO_at, oO_ne, oS, oG, oN, nS, nG, nO, and_false, false_and, not_false_eq_true, not_true_eq_false, and_true, true_and, hb]
    exact I2'
  · simp [sS_at, sS_ne, sG, sO, sN, gG_at, gG_ne, gS, gO, gN, oO_at, oO_ne, oS, oG, oN, nS, nG, nO, and_false, false_and, not_false_eq_true, not_true_eq_false, and_true, true_and, hb]
    exact I3
  · simp [sS_at, sS_ne, sG, sO, sN, gG_at, gG_ne, gS, gO, gN, oO_at, oO_ne, oS, oG, oN, nS, nG, nO, and_false, false_and, not_false_eq_true, not_true_eq_false, and_true, true_and, pk_un]
    exact I4
  · rcases (show b = 0 ∨ b = 1 by omega) with rfl | rfl
    · refine ⟨?_, ?_, ?_⟩
      · simp [sS_at, sS_ne, sG, sO, sN, gG_at, gG_ne, gS, gO, gN, oO_at, oO_ne, oS, oG, oN, nS, nG, nO, and_false, false_and, not_false_eq_true, not_true_eq_false, and_true, true_and, pk_un, a1]
      · simp [sS_at, sS_ne, sG, sO, sN, gG_at, gG_ne, gS, gO, gN, oO_at, oO_ne, oS, oG, oN, nS, nG, nO, and_false, false_and, not_false_eq_true, not_true_eq_false, and_true, true_and, pk_un, a2]
      · simp [sS_at, sS_ne, sG, sO, sN, gG_at, gG_ne, gS, gO, gN, oO_at, oO_ne, oS, oG, oN, nS, nG, nO, and_false, false_and, not_false_eq_true, not_true_eq_false, and_true, true_and, pk_us, a3]
        rw [Int32.add_assoc, Int32.add_comm (gT_ U 1 2), ← Int32.add_assoc]
    · refine ⟨?_, ?_, ?_⟩
      · simp [sS_at, sS_ne, sG, sO, sN, gG_at, gG_ne, gS, gO, gN, oO_at, oO_ne, oS, oG, oN, nS, nG, nO, and_false, false_and, not_false_eq_true, not_true_eq_false, and_true, true_and, pk_un, a1]
      · simp [sS_at, sS_ne, sG, sO, sN, gG_at, gG_ne, gS, gO, gN, oO_at, oO_ne, oS, oG, oN, nS, nG, nO, and_false, false_and, not_false_eq_true, not_true_eq_false, and_true, true_and, pk_un, a2]
      · simp [sS_at, sS_ne, sG, sO, sN, gG_at, gG_ne, gS, gO, gN, oO_at, oO_ne, oS, oG, oN, nS, nG, nO, and_false, false_and, not_false_eq_true, not_true_eq_false, and_true, true_and, pk_us, a3]
        rw [Int32.add_assoc]
theorem I_climb (I : I_ T n) (hb : b < 2) (hj : j < n) (ho : ¬ oT_ T (oc_ T (gT_ T b 1) j) = nI 2) : I_ (tClimb_ T b j) n := by
  have hc := oc_lt I hj (gT_ T b 1)
  unfold tClimb_
  rw [oth_nI I hj]
  generalize oc_ T (gT_ T b 1) j = c at ho hc ⊢
  refine I_step ?_ hb hj _
  unfold tGo_
  have I2 := I_land I hb hc ho
  split
  · next q =>
    refine I_toll I2 hb ?_
    rw [gG_ne (by decide) (by decide) (by omega)]
    exact q.2
  · exact I2
theorem nS_n {a b s : Nat} (ha : a < 8) (hb : b < 8) (hab : a ≠ b) (h1 : 1 ≤ s) (h2 : s ≤ 40) : St_ (nS_ (nI a) (nI b) (nI s)) ∧ (nS_ (nI a) (nI b) (nI s) 0 = nI (min a b) ∧ nS_ (nI a) (nI b) (nI s) 1 = nI (max a b)) := by
  have e0 : nS_ (nI a) (nI b) (nI s) 0 = nI (min a b) := by
    show (if nI b < nI a then nI b else nI a) = _
    by_cases q : b < a
    · rw [if_pos (nI_lt q (by omega)), Nat.min_eq_right (by omega)]
    · rw [if_neg (nI_nlt (by omega) (by omega)), Nat.min_eq_left (by omega)]
  have e1 : nS_ (nI a) (nI b) (nI s) 1 = nI (max a b) := by
    show (if nI a < nI b then nI b else nI a) = _
    by_cases q : a < b
    · rw [if_pos (nI_lt q (by omega)), Nat.max_eq_right (by omega)]
    · rw [if_neg (nI_nlt (by omega) (by omega)), Nat.max_eq_left (by omega)]
  refine ⟨⟨⟨min a b, max a b, by omega, by omega, e0, e1⟩, ⟨s, h1, h2, rfl⟩, ⟨0, by decide, rfl⟩, ⟨0, by decide, rfl⟩, .inl ⟨rfl, rfl⟩⟩, e0, e1⟩
theorem I_build (I : I_ T n) (hn : n < 10) {a b s : Nat} (ha : a < 8) (hb : b < 8) (hab : a ≠ b) (h1 : 1 ≤ s) (h2 : s ≤ 40) (hq : qJ_ T n (nI a) (nI b) = none) : I_ (tBuild_ T n (nI a) (nI b) (nI s)) (n + 1) := by
  obtain ⟨I1, I2, I3, I4, I5, I6, I7⟩ := I
  obtain ⟨hS, e0, e1⟩ := nS_n ha hb hab h1 h2
  have hz : ∀ i, i ≠ 0 → i < 34 → tBuild_ T n (nI a) (nI b) (nI s) i = T i := fun i h0 h1 => tB_o h0 h1
  have eg : ∀ b2 k, b2 < 2 → k < 5 → gT_ (tBuild_ T n (nI a) (nI b) (nI s)) b2 k = gT_ T b2 k := fun b2 k hb hk => hz _ (by omega) (by omega)
  have eo : ∀ i, i < 8 → oT_ (tBuild_ T n (nI a) (nI b) (nI s)) i = oT_ T i := fun i hi => hz _ (by omega) (by omega)
  have es : ∀ j k, j < n → k < 7 → sT_ (tBuild_ T n (nI a) (nI b) (nI s)) j k = sT_ T j k := fun j k hj hk => by rw [tB_S (by omega) hk, if_neg (by omega)]
  have en : ∀ k, k < 7 → sT_ (tBuild_ T n (nI a) (nI b) (nI s)) n k = nS_ (nI a) (nI b) (nI s) k := fun k hk => by rw [tB_S (by omega) hk, if_pos rfl]
  refine ⟨by rw [hz 3 (by decide) (by decide)]; exact I1, fun i hi => by rw [eo i hi]; exact I2 i hi, fun b2 hb2 => ?_, ?_, fun j hj => ?_, fun i j hi hj => ?_, ?_⟩
  · obtain ⟨x, h1, h2, h3⟩ := I3 b2 hb2
    exact ⟨x, h1, by rw [eg b2 1 hb2 (by decide)]; exact h2, by rw [eo x h1]; exact h3⟩
  · rw [eg 0 0 (by decide) (by decide), eg 1 0 (by decide) (by decide), hz 2 (by decide) (by decide)]
    exact I4
  · by_cases e : j = n
    · rw [e]
      exact St_c hS en
    · exact St_c (I5 j (by omega)) (fun k hk => es j k (by omega) hk)
  · by_cases e : j = n
    · subst e
      rw [es i 0 hi (by decide), es i 1 hi (by decide), en 0 (by decide), en 1 (by decide), e0, e1]
      rintro ⟨q0, q1⟩
      have h3 := List.find?_eq_none.mp hq i (List.mem_range.mpr hi)
      apply h3
      have hne : ¬ nI a = nI b := by
        rw [nI_eq (by omega) (by omega)]
        exact hab
      simp only [Bool.and_eq_true, decide_eq_true_eq, E_iff, q0, q1]
      refine ⟨hne, ?_, ?_⟩
      · by_cases q : a ≤ b
        · exact .inl (by rw [Nat.min_eq_left q])
        · exact .inr (by rw [Nat.max_eq_left (by omega)])
      · by_cases q : a ≤ b
        · exact .inr (by rw [Nat.max_eq_right q])
        · exact .inl (by rw [Nat.min_eq_right (by omega)])
    · rw [es i 0 (by omega) (by decide), es i 1 (by omega) (by decide), es j 0 (by omega) (by decide), es j 1 (by omega) (by decide)]
      exact I6 i j hi (by omega)
  · rw [hz 4 (by decide) (by decide), hz 6 (by decide) (by decide), hz 7 (by decide) (by decide), eg 0 2 (by decide) (by decide), eg 0 3 (by decide) (by decide), eg 0 4 (by decide) (by decide), eg 1 2 (by decide) (by decide), eg 1 3 (by decide) (by decide), eg 1 4 (by decide) (by decide)]
    exact I7
theorem I_tear (I : I_ T n) {s : Nat} (hs : s < n) : I_ (tTear_ T n s) (n - 1) := by
  obtain ⟨I1, I2, I3, I4, I5, I6, I7⟩ := I
  have hz : ∀ i, i ≠ 0 → i < 34 → tTear_ T n s i = T i := fun i h0 h1 => tT_o h0 h1 hs
  have eg : ∀ b2 k, b2 < 2 → k < 5 → gT_ (tTear_ T n s) b2 k = gT_ T b2 k := fun b2 k hb hk => hz _ (by omega) (by omega)
  have eo : ∀ i, i < 8 → oT_ (tTear_ T n s) i = oT_ T i := fun i hi => hz _ (by omega) (by omega)
  have es : ∀ j, j < n - 1 → ∃ p, p < n ∧ (p = if s ≤ j then j + 1 else j) ∧ ∀ k, k < 7 → sT_ (tTear_ T n s) j k = sT_ T p k := fun j hj => by
    by_cases e : s ≤ j
    · exact ⟨j + 1, by omega, by rw [if_pos e], fun k hk => by rw [tT_S hs hj hk, if_pos e]⟩
    · exact ⟨j, by omega, by rw [if_neg e], fun k hk => by rw [tT_S hs hj hk, if_neg e]⟩
  refine ⟨by rw [hz 3 (by decide) (by decide)]; exact I1, fun i hi => by rw [eo i hi]; exact I2 i hi, fun b2 hb2 => ?_, ?_, fun j hj => ?_, fun i j hi hj => ?_, ?_⟩
  · obtain ⟨x, h1, h2, h3⟩ := I3 b2 hb2
    exact ⟨x, h1, by rw [eg b2 1 hb2 (by decide)]; exact h2, by rw [eo x h1]; exact h3⟩
  · rw [eg 0 0 (by decide) (by decide), eg 1 0 (by decide) (by decide), hz 2 (by decide) (by decide)]
    exact I4
  · obtain ⟨p, hp, -, e⟩ := es j hj
    exact St_c (I5 p hp) e
  · obtain ⟨p, hp, fp, e⟩ := es i (by omega)
    obtain ⟨q, hq, fq, e2⟩ := es j hj
    rw [e 0 (by decide), e 1 (by decide), e2 0 (by decide), e2 1 (by decide)]
    refine I6 p q ?_ hq
    split at fp <;> split at fq <;> omega
  · rw [hz 4 (by decide) (by decide), hz 6 (by decide) (by decide), hz 7 (by decide) (by decide), eg 0 2 (by decide) (by decide), eg 0 3 (by decide) (by decide), eg 0 4 (by decide) (by decide), eg 1 2 (by decide) (by decide), eg 1 3 (by decide) (by decide), eg 1 4 (by decide) (by decide)]
    exact I7
end IM

/-! the two cases of floating numbers -/
section FL
variable {C : LC_} {b L : Nat} {xs : Nat → Int32} {cells slots : Nat} {h h1 : mm_S} {A : Nat → Nat} {K : Nat → mm_Ce} {x m o o2 n : Nat}
/-- what is known behind such a small method -/
def PD_ {α : Type} (A : Nat → Nat) (K : Nat → mm_Ce) (md : mm_S → Option (α × mm_S)) (cv : α → UInt64) (P : α → Prop) : Int32 → mm_S → Prop := fun kk H => ∃ (K2 : Nat → mm_Ce) (v : α), (∃ g, K2 225 = .inl (3, 1, .inr (.inr (.inr (.inl g)))) ∧ (kk = nI 0 → g 0 = cv v ∧ P v)) ∧ K2 224 = K 224 ∧ (∃ (GG : Nat → Nat → Nat) (Z : Nat → Nat → Int32) (XL : Nat → Int64) (cap : Nat), WD_ A GG Z XL cap K2 H) ∧ ∃ h2, md H = some (v, h2) ∧ fx_gI h2 (A 213) 6 5 = some kk ∧ ST_ A K2 h2
/-- the answer is laid down, or what was thrown told -/
theorem pd_of {α : Type} {o : α ⊕ String} {v : α} {k : Int32} {E : String} {md : mm_S → Option (α × mm_S)} {cv : α → UInt64} {P : α → Prop} (ok : OKg_ o v k E P) (hW : ∃ (GG : Nat → Nat → Nat) (Z : Nat → Nat → Int32) (XL : Nat → Int64) (cap : Nat), WD_ A GG Z XL cap K h) (h225 : ∃ g, K 225 = .inl (3, 1, .inr (.inr (.inr (.inl g)))))
    (ms : ∀ (K2 : Nat → mm_Ce) (H : mm_S), (∀ (GG : Nat → Nat → Nat) (Z : Nat → Nat → Int32) (XL : Nat → Int64) (cap : Nat), WD_ A GG Z XL cap K h → WD_ A GG Z XL cap K2 H) → ∃ h2, md H = some (v, h2) ∧ fx_gI h2 (A 213) 6 5 = some k ∧ ST_ A K2 h2) :
    (o = .inl v ∧ P v ∧ ∃ g : Nat → UInt64, A 225 ∈ h.1 ∧ h.2 (A 225) = .inl (3, 1, .inr (.inr (.inr (.inl g)))) ∧ PD_ A K md cv P (nI 0) (mm_put h (A 225) (.inl (3, 1, .inr (.inr (.inr (.inl (vf_upd g 0 (cv v))))))))) ∨ (o = .inr E ∧ PD_ A K md cv P (nI 1) h) := by
  obtain ⟨GG, Z, XL, cap, W⟩ := hW
  obtain ⟨g, eg⟩ := h225
  obtain ⟨m1, m2⟩ := WD_at W (i := 225) (by decide) (by decide)
  rcases ok with ⟨rfl, rfl, hp⟩ | ⟨rfl, rfl⟩
  · refine .inl ⟨rfl, hp, g, m1, m2.trans eg, ?_⟩
    obtain ⟨h2, a1, a2, a3⟩ := ms (va_up K 225 (.inl (3, 1, .inr (.inr (.inr (.inl (vf_upd g 0 (cv v)))))))) (mm_put h (A 225) (.inl (3, 1, .inr (.inr (.inr (.inl (vf_upd g 0 (cv v)))))))) (fun _ _ _ _ w => WD_put w (by decide) (by decide))
    exact ⟨_, v, ⟨_, va_up_self _ _ _, fun _ => ⟨if_pos rfl, hp⟩⟩, va_up_ne _ _ (by decide), ⟨_, _, _, _, WD_put W (i := 225) (by decide) (by decide)⟩, h2, a1, a2, a3⟩
  · obtain ⟨h2, a1, a2, a3⟩ := ms K h (fun _ _ _ _ w => w)
    exact .inr ⟨rfl, K, v, ⟨g, eg, fun z => absurd ((nI_eq (by decide) (by decide)).mp z) (by decide)⟩, rfl, ⟨_, _, _, _, W⟩, h2, a1, a2, a3⟩
theorem l_cmpE : Op.cmpValue (some .eq) .l = 0 := rfl
theorem lc_c39 (X : LX_ C b L xs) (hL : n + 3 < L ∧ L < 2 ^ 31) (I : LI_ x m o o2 A K h) (hc : cells + 2 ≤ 603072 ∧ slots + 80 ≤ 7215210) (hn : ∀ A' K' h', LI_ x m o o2 A' K' h' → LK_ C b (cells + 2) (slots + 80) (2671, [], ls_ b x m o o2 n, h')) : LK_ C b cells slots (2439, [], ls_ b x m o o2 n, h) := by
  obtain ⟨w1, w2, w3⟩ := LX_w X
  obtain ⟨⟨ex, em, eo, eo2⟩, hs, i224, i225⟩ := id I
  obtain ⟨GG, Z, XL, cap, hW, hsm⟩ := id hs
  obtain ⟨o9, v9, k9, q1, ok, ms⟩ := o_mean hs
  have run : mm_Run (mm_Xc (SS_ C.2.2.2.2.2.2.2.2.1)) 2 107 2 80 [.ref (A 209)] h (WD2_ ["java/lang/ArithmeticException"] (A 225) (PD_ A K (fun H => F_X6_meanSteps H (A 213)) (fun v : UInt64 => v) (fun v => FP.dcmp v v = some .eq))) := by
    refine r_X5_meanSteps (d := 0) (mm_Xc_mono _) ⟨by decide, by decide⟩ q1 ?_
    rcases pd_of (md := fun H => F_X6_meanSteps H (A 213)) (cv := (fun v : UInt64 => v)) ok ⟨_, _, _, _, hW⟩ i225 ms with ⟨rfl, hp, g, b1, b2, b3⟩ | ⟨rfl, b3⟩
    · exact ⟨g, b1, b2, b3⟩
    · exact ⟨0, rfl, b3⟩
  have met := lw_meanSteps w1 w2 w3 (WD_5 hW).1 (Classical.choose_spec (WD_5 hW).2) run
  refine ll_R X (lr_n kk_c39 (pc := 2439) rfl (F2 := (2440, [.ref x], ls_ b x m o o2 n, h)) rfl (lr_n kk_c39 (pc := 2440) rfl (F2 := (2442, [.ref o2, .ref x], ls_ b x m o o2 n, h)) rfl lr_rf)) ?_
  rw [ex, eo2] at met
  refine ll_S (n := 2) (d := 2) (As := [.ref x, .ref o2]) (rest := []) (idx := 281) X met (lx_x 151 rfl) (lx_y 26 3 rfl) (lx_y 26 4 rfl) (lx_y 11 9 rfl) ⟨by decide, by decide, by decide +kernel⟩ (by decide) (by decide) hc rfl (by decide +kernel) (Nat.zero_le 8) (fun kk H hP => ?_)
  obtain ⟨K2, v, ⟨g, eg, hg⟩, e224, ⟨GG1, Z1, XL1, cap1, W1⟩, h2, r1, r2, r3⟩ := hP
  refine ll_R X (lr_n kk_c39 (pc := 2445) rfl (F2 := (2447, [], (6, .int kk) :: ls_ b x m o o2 n, H)) rfl (lr_n kk_c39 (pc := 2447) rfl (F2 := (2448, [.ref m], (6, .int kk) :: ls_ b x m o o2 n, H)) rfl lr_rf)) ?_
  obtain ⟨u1, fs6, u2⟩ := WD_6 W1
  have mrun := r_X6_meanSteps (X := mm_Xc (SS_ C.2.2.2.2.2.2.2.2.1)) (d := 0) (c := 0) (k := 0) (o := (v, h2)) (Q := fun r => ∃ v' h', r = (.inl v', h') ∧ (v' = some (.double v) ∧ h' = h2)) (mm_Xc_mono _) r1 ⟨_, _, rfl, rfl, rfl⟩
  rw [em] at mrun u1 u2 r2
  refine ll_V (As := []) (n := 0) (mc := 0) (ms := 0) (idx := 284) X mrun (by decide) (lx_y 26 5 rfl) (lx_y 26 6 rfl) (lx_y 26 7 rfl) (lx_y 11 6 rfl) (by decide +kernel) u1 u2 (by decide) rfl (by decide) hc rfl (by decide +kernel) (Nat.zero_le 8) (fun v' h' e' => ?_)
  obtain ⟨rfl, rfl⟩ := e'
  have I2 : LI_ x m o o2 A K2 h' := ⟨⟨ex, em, eo, eo2⟩, r3, by rw [e224]; exact i224, g, eg⟩
  have hn2 := hn A K2 h' I2
  obtain ⟨GG3, Z3, XL3, cap3, W3, -⟩ := id r3
  obtain ⟨u3, fs7, u4⟩ := WD_6 W3
  obtain ⟨u5, u6⟩ := WD_at W3 (i := 225) (by decide) (by decide)
  rw [em] at u3 u4
  rw [eo2, eg] at u6
  rw [eo2] at u5
  refine ll_R X (lr_n kk_c39 (pc := 2451) rfl (F2 := (2453, [], (7, .double v) :: (6, .int kk) :: ls_ b x m o o2 n, h')) rfl (lr_n kk_c39 (pc := 2453) rfl (F2 := (2454, [.ref m], (7, .double v) :: (6, .int kk) :: ls_ b x m o o2 n, h')) rfl lr_rf)) ?_
  have trun : mm_Run (mm_Xc (SS_ C.2.2.2.2.2.2.2.2.1)) (0 + 1) 124 0 0 [.ref m] h' (fun r => ∃ v h2, r = (.inl v, h2) ∧ (v = some (.int kk) ∧ h2 = h')) :=
    r_X6_thrown (mm_Xc_mono _) (d := 0) (c := 0) (k := 0) (o := kk) (by unfold F_X6_thrown; rw [r2]; rfl) ⟨_, _, rfl, rfl, rfl⟩
  refine ll_V (As := []) (n := 0) (mc := 0) (ms := 0) (idx := 152) X trun (by decide) (lx_x 168 rfl) (lx_x 169 rfl) (lx_x 170 rfl) (lx_x 160 rfl) (by decide +kernel) u3 u4 (by decide) rfl (by decide) hc rfl (by decide +kernel) (Nat.zero_le 8) (fun v2 h3 e2 => ?_)
  obtain ⟨rfl, rfl⟩ := e2
  show LK_ C b (cells + 2) (slots + 80) (2457, [.int kk], (7, .double v) :: (6, .int kk) :: ls_ b x m o o2 n, h3)
  have fin : LK_ C b (cells + 2) (slots + 80) (2501, [], (7, .double v) :: (6, .int kk) :: ls_ b x m o o2 n, h3) :=
    ll_R X (lr_to kk_c39 2671 rfl rfl lr_rf) (ll_ls (ls_ b x m o o2 n) (by simp [mm_get]) hn2)
  refine ll_R X (lr_n kk_c39 (pc := 2457) rfl (F2 := (2459, [.int kk, .int kk], (7, .double v) :: (6, .int kk) :: ls_ b x m o o2 n, h3)) rfl (lr_ct kk_c39 2464 rfl rfl (show kk = kk from rfl) (lr_n kk_c39 (pc := 2464) rfl (F2 := (2466, [.int kk], (7, .double v) :: (6, .int kk) :: ls_ b x m o o2 n, h3)) rfl lr_rf))) ?_
  by_cases h0 : kk = 0
  · obtain ⟨z1, z2⟩ := hg h0
    refine ll_R X (lr_zf kk_c39 (pc := 2466) rfl (by decide) (show ¬ kk ≠ 0 from fun q => q h0) (lr_n kk_c39 (pc := 2469) rfl (F2 := (2471, [.ref o2], (7, .double v) :: (6, .int kk) :: ls_ b x m o o2 n, h3)) rfl (lr_n kk_c39 (pc := 2471) rfl (F2 := (2472, [.int (ki 0), .ref o2], (7, .double v) :: (6, .int kk) :: ls_ b x m o o2 n, h3)) rfl (lr_lD (n := 0) kk_c39 (pc := 2472) rfl u5 u6 (lr_n kk_c39 (pc := 2473) rfl (F2 := (2475, [.double v, .double (g 0)], (7, .double v) :: (6, .int kk) :: ls_ b x m o o2 n, h3)) rfl (lr_n kk_c39 (pc := 2475) rfl (F2 := (2476, [.int (Op.cmpValue (FP.dcmp (g 0) v) .l)], (7, .double v) :: (6, .int kk) :: ls_ b x m o o2 n, h3)) rfl (lr_zt kk_c39 (pc := 2476) 2501 rfl rfl (show Op.cmpValue (FP.dcmp (g 0) v) .l = 0 by rw [z1]; show Op.cmpValue (FP.dcmp v v) .l = 0; rw [show FP.dcmp v v = some .eq from z2]; exact l_cmpE) lr_rf))))))) fin
  · exact ll_R X (lr_zt kk_c39 (pc := 2466) 2501 rfl rfl (show kk ≠ 0 from h0) lr_rf) fin
theorem lc_c40 (X : LX_ C b L xs) (hL : n + 3 < L ∧ L < 2 ^ 31) (I : LI_ x m o o2 A K h) (hc : cells + 2 ≤ 603072 ∧ slots + 80 ≤ 7215210) (hn : ∀ A' K' h', LI_ x m o o2 A' K' h' → LK_ C b (cells + 2) (slots + 80) (2671, [], ls_ b x m o o2 n, h')) : LK_ C b cells slots (2504, [], ls_ b x m o o2 n, h) := by
  obtain ⟨w1, w2, w3⟩ := LX_w X
  obtain ⟨⟨ex, em, eo, eo2⟩, hs, i224, i225⟩ := id I
  obtain ⟨GG, Z, XL, cap, hW, hsm⟩ := id hs
  obtain ⟨o9, v9, k9, q1, ok, ms⟩ := o_share hs
  have run : mm_Run (mm_Xc (SS_ C.2.2.2.2.2.2.2.2.1)) 2 108 2 80 [.ref (A 209)] h (WF_ ["java/lang/ArithmeticException"] (A 225) (PD_ A K (fun H => F_X6_leasedShare H (A 213)) FP.f2d (fun v => vf_n64 (FP.f2d v) ∧ FP.dcmp (FP.f2d v) (FP.f2d v) = some .eq))) := by
    refine r_X5_leasedShare (d := 0) (mm_Xc_mono _) ⟨by decide, by decide⟩ q1 ?_
    rcases pd_of (md := fun H => F_X6_leasedShare H (A 213)) (cv := FP.f2d) ok ⟨_, _, _, _, hW⟩ i225 ms with ⟨rfl, hp, g, b1, b2, b3⟩ | ⟨rfl, b3⟩
    · exact ⟨hp.1, g, b1, b2, b3⟩
    · exact ⟨0, rfl, b3⟩
  have met := lw_leasedShare w1 w2 w3 (WD_5 hW).1 (Classical.choose_spec (WD_5 hW).2) run
  refine ll_R X (lr_n kk_c40 (pc := 2504) rfl (F2 := (2505, [.ref x], ls_ b x m o o2 n, h)) rfl (lr_n kk_c40 (pc := 2505) rfl (F2 := (2507, [.ref o2, .ref x], ls_ b x m o o2 n, h)) rfl lr_rf)) ?_
  rw [ex, eo2] at met
  refine ll_S (n := 2) (d := 2) (As := [.ref x, .ref o2]) (rest := []) (idx := 285) X met (lx_x 152 rfl) (lx_y 26 8 rfl) (lx_y 26 9 rfl) (lx_y 11 9 rfl) ⟨by decide, by decide, by decide +kernel⟩ (by decide) (by decide) hc rfl (by decide +kernel) (Nat.zero_le 8) (fun kk H hP => ?_)
  obtain ⟨K2, v, ⟨g, eg, hg⟩, e224, ⟨GG1, Z1, XL1, cap1, W1⟩, h2, r1, r2, r3⟩ := hP
  refine ll_R X (lr_n kk_c40 (pc := 2510) rfl (F2 := (2512, [], (6, .int kk) :: ls_ b x m o o2 n, H)) rfl (lr_n kk_c40 (pc := 2512) rfl (F2 := (2513, [.ref m], (6, .int kk) :: ls_ b x m o o2 n, H)) rfl lr_rf)) ?_
  obtain ⟨u1, fs6, u2⟩ := WD_6 W1
  have mrun := r_X6_leasedShare (X := mm_Xc (SS_ C.2.2.2.2.2.2.2.2.1)) (d := 0) (c := 0) (k := 0) (o := (v, h2)) (Q := fun r => ∃ v' h', r = (.inl v', h') ∧ (v' = some (.float v) ∧ h' = h2)) (mm_Xc_mono _) r1 ⟨_, _, rfl, rfl, rfl⟩
  rw [em] at mrun u1 u2 r2
  refine ll_V (As := []) (n := 0) (mc := 0) (ms := 0) (idx := 287) X mrun (by decide) (lx_y 26 10 rfl) (lx_y 26 11 rfl) (lx_y 26 12 rfl) (lx_y 11 6 rfl) (by decide +kernel) u1 u2 (by decide) rfl (by decide) hc rfl (by decide +kernel) (Nat.zero_le 8) (fun v' h' e' => ?_)
  obtain ⟨rfl, rfl⟩ := e'
  have I2 : LI_ x m o o2 A K2 h' := ⟨⟨ex, em, eo, eo2⟩, r3, by rw [e224]; exact i224, g, eg⟩
  have hn2 := hn A K2 h' I2
  obtain ⟨GG3, Z3, XL3, cap3, W3, -⟩ := id r3
  obtain ⟨u3, fs7, u4⟩ := WD_6 W3
  obtain ⟨u5, u6⟩ := WD_at W3 (i := 225) (by decide) (by decide)
  rw [em] at u3 u4
  rw [eo2, eg] at u6
  rw [eo2] at u5
  refine ll_R X (lr_n kk_c40 (pc := 2516) rfl (F2 := (2518, [], (7, .float v) :: (6, .int kk) :: ls_ b x m o o2 n, h')) rfl (lr_n kk_c40 (pc := 2518) rfl (F2 := (2519, [.ref m], (7, .float v) :: (6, .int kk) :: ls_ b x m o o2 n, h')) rfl lr_rf)) ?_
  have trun : mm_Run (mm_Xc (SS_ C.2.2.2.2.2.2.2.2.1)) (0 + 1) 124 0 0 [.ref m] h' (fun r => ∃ v h2, r = (.inl v, h2) ∧ (v = some (.int kk) ∧ h2 = h')) :=
    r_X6_thrown (mm_Xc_mono _) (d := 0) (c := 0) (k := 0) (o := kk) (by unfold F_X6_thrown; rw [r2]; rfl) ⟨_, _, rfl, rfl, rfl⟩
  refine ll_V (As := []) (n := 0) (mc := 0) (ms := 0) (idx := 152) X trun (by decide) (lx_x 168 rfl) (lx_x 169 rfl) (lx_x 170 rfl) (lx_x 160 rfl) (by decide +kernel) u3 u4 (by decide) rfl (by decide) hc rfl (by decide +kernel) (Nat.zero_le 8) (fun v2 h3 e2 => ?_)
  obtain ⟨rfl, rfl⟩ := e2
  show LK_ C b (cells + 2) (slots + 80) (2522, [.int kk], (7, .float v) :: (6, .int kk) :: ls_ b x m o o2 n, h3)
  have fin : LK_ C b (cells + 2) (slots + 80) (2567, [], (7, .float v) :: (6, .int kk) :: ls_ b x m o o2 n, h3) :=
    ll_R X (lr_to kk_c40 2671 rfl rfl lr_rf) (ll_ls (ls_ b x m o o2 n) (by simp [mm_get]) hn2)
  refine ll_R X (lr_n kk_c40 (pc := 2522) rfl (F2 := (2524, [.int kk, .int kk], (7, .float v) :: (6, .int kk) :: ls_ b x m o o2 n, h3)) rfl (lr_ct kk_c40 2529 rfl rfl (show kk = kk from rfl) (lr_n kk_c40 (pc := 2529) rfl (F2 := (2531, [.int kk], (7, .float v) :: (6, .int kk) :: ls_ b x m o o2 n, h3)) rfl lr_rf))) ?_
  by_cases h0 : kk = 0
  · obtain ⟨z1, z2⟩ := hg h0
    refine ll_R X (lr_zf kk_c40 (pc := 2531) rfl (by decide) (show ¬ kk ≠ 0 from fun q => q h0) (lr_n kk_c40 (pc := 2534) rfl (F2 := (2536, [.ref o2], (7, .float v) :: (6, .int kk) :: ls_ b x m o o2 n, h3)) rfl (lr_n kk_c40 (pc := 2536) rfl (F2 := (2537, [.int (ki 0), .ref o2], (7, .float v) :: (6, .int kk) :: ls_ b x m o o2 n, h3)) rfl (lr_lD (n := 0) kk_c40 (pc := 2537) rfl u5 u6 (lr_n kk_c40 (pc := 2538) rfl (F2 := (2540, [.float v, .double (g 0)], (7, .float v) :: (6, .int kk) :: ls_ b x m o o2 n, h3)) rfl (lr_p kk_c40 (pc := 2540) (P := vf_n64 (FP.f2d v)) (F2 := (2541, [.double (FP.f2d v), .double (g 0)], (7, .float v) :: (6, .int kk) :: ls_ b x m o o2 n, h3)) rfl rfl z2.1 (lr_n kk_c40 (pc := 2541) rfl (F2 := (2542, [.int (Op.cmpValue (FP.dcmp (g 0) (FP.f2d v)) .l)], (7, .float v) :: (6, .int kk) :: ls_ b x m o o2 n, h3)) rfl (lr_zt kk_c40 (pc := 2542) 2567 rfl rfl (show Op.cmpValue (FP.dcmp (g 0) (FP.f2d v)) .l = 0 by rw [z1, z2.2]; exact l_cmpE) lr_rf)))))))) fin
  · exact ll_R X (lr_zt kk_c40 (pc := 2531) 2567 rfl rfl (show kk ≠ 0 from h0) lr_rf) fin
end FL

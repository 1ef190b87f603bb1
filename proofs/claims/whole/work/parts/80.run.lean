/-! run: class and reference in step -/
def exIU_ : List String := ["java/lang/IllegalArgumentException", "java/lang/UnsupportedOperationException"]
section RU
variable {A : Nat → Nat} {GG : Nat → Nat → Nat} {Z : Nat → Nat → Int32} {XL : Nat → Int64} {cap i n f : Nat} {K : Nat → mm_Ce} {h : mm_S} {T : Nat → Int32} {S v : Nat → Nat}
theorem so_k (hW : WD_ A GG Z XL cap K h) (R : R_ (GG 1) (wt_ Z 1) T n) (I : I_ T n) (hT : T 0 = nI n) (hn : n ≤ 10) {acc : List (Nat × Nat)} (c : CO_ v Z acc) (hi : i < acc.length) (h15 : acc.length ≤ 15) : SO_ A h T i (fun M => MO_ v M acc) := by
  obtain ⟨hk, ek, en⟩ := c.2 i hi
  have key : ∀ {ar : (Nat → Nat → Int32) → Prop}, SO_ A h T i ar → (∀ M, MO_ v M acc → ar M) → SO_ A h T i (fun M => MO_ v M acc) := fun {ar} s hs => by
    obtain ⟨q, q1, q2, q3, q4⟩ := s
    refine ⟨q, q1, q2, fun hq => ?_, fun r hr l M H hl hM ha => q4 r hr l M H hl hM (hs M ha)⟩
    obtain ⟨x, T2, g', w', n', a1, a2, a3, a4⟩ := q3 hq
    exact ⟨x, T2, g', w', n', a1, a2, a3, fun l M H hl hM ha => a4 l M H hl hM (hs M ha)⟩
  generalize hkp : acc.getD i (0, 0) = kp at hk ek en
  obtain ⟨k, p⟩ := kp
  have margs : ∀ M, MO_ v M acc → M 8 i = nI k ∧ M 9 (3 * i) = nI (on_ v p k 0) ∧ M 9 (3 * i + 1) = nI (on_ v p k 1) ∧ M 9 (3 * i + 2) = nI (on_ v p k 2) := fun M m => by
    obtain ⟨m1, m2⟩ := m.2 i hi
    rw [hkp] at m1 m2
    exact ⟨m1, m2 0 (by decide), m2 1 (by decide), m2 2 (by decide)⟩
  match k, hk with
  | 0, _ => exact key (s_0 hW R I hT hn (by omega) ek _ _ _ (en 0 (show 0 < na_ 0 by decide)) (en 1 (show 1 < na_ 0 by decide)) (en 2 (show 2 < na_ 0 by decide))) margs
  | 1, _ => exact key (s_1 hW R I hT hn (by omega) ek _ _ _ (en 0 (show 0 < na_ 1 by decide))) margs
  | 2, _ => exact key (s_2 hW R I hT hn (by omega) ek _ _ _ (en 0 (show 0 < na_ 2 by decide))) margs
  | 3, _ => exact key (s_3 hW R I hT hn (by omega) ek _ _ _ (en 0 (show 0 < na_ 3 by decide)) (en 1 (show 1 < na_ 3 by decide)) (en 2 (show 2 < na_ 3 by decide))) margs
  | 4, _ => exact key (s_4 hW R I hT hn (by omega) ek _ _ _ (en 0 (show 0 < na_ 4 by decide)) (en 1 (show 1 < na_ 4 by decide))) margs
  | 5, _ => exact key (s_5 hW R I hT hn (by omega) ek _ _ _ (en 0 (show 0 < na_ 5 by decide)) (en 1 (show 1 < na_ 5 by decide))) margs
  | 6, _ => exact key (s_6 hW R I hT hn (by omega) ek _ _ _ (en 0 (show 0 < na_ 6 by decide))) margs
  | 7, _ => exact key (s_7 hW R I hT hn (by omega) ek _ _ _ (en 0 (show 0 < na_ 7 by decide)) (en 1 (show 1 < na_ 7 by decide))) margs
  | 8, _ => exact key (s_8 hW R I hT hn (by omega) ek) (fun M m => (margs M m).1)
/-- what the orders come to: refused at one, or a treaty -/
theorem ord_L : ∀ (d i : Nat) (GG : Nat → Nat → Nat) (Z : Nat → Nat → Int32) (T : Nat → Int32) (h : mm_S) (acc : List (Nat × Nat)) (fuel : Nat), d + i = acc.length → acc.length ≤ 15 → d < fuel → WD_ A GG Z XL cap K h → TR_ GG Z 1 T → CO_ v Z acc → ∃ h' GG' Z' XL', WD_ A GG' Z' XL' cap K h' ∧ (∀ k, k ≠ 1 → GG' k = GG k) ∧ gs_ (GG' 1) ∧ (∀ a, ¬ (16 ≤ a ∧ a < 32) → Z' a = Z a) ∧
    ((∃ T2, XL' = XL ∧ TR_ GG' Z' 1 T2 ∧ F_X5_isAnyOrderRefused_L13 fuel (A 209) (nI i) h = some (.inr h') ∧ ∀ (l : Nat → Nat) (M : Nat → Nat → Int32) (H : mm_S) (fu : Nat), d < fu → ov_L 11 l H → M 1 = T → MO_ v M acc → F_X6_run_L42 fu (l 0) (nI i) (mv_ l M H) = some (.inr (mv_ l (mT_ M T2) H))) ∨
     ∃ j r T2, r.1 ≠ nI 0 ∧ j < 15 ∧ XL' 10 = rf_ (nI 16) (nI j) ∧ XL' 11 = rf_ r.1 r.2 ∧ F_X5_isAnyOrderRefused_L13 fuel (A 209) (nI i) h = some (.inl (ki 1, h')) ∧ ∀ (l : Nat → Nat) (M : Nat → Nat → Int32) (H : mm_S) (fu : Nat), d < fu → ov_L 11 l H → M 1 = T → MO_ v M acc → F_X6_run_L42 fu (l 0) (nI i) (mv_ l M H) = some (.inl (nI 0, mv_ l (w2_ (w2_ (w2_ (w2_ (w2_ (mC_ (mW_ (mT_ M T2) r) 2 0 1 0 110) 0 11 r.1) 0 12 r.2) 0 9 (nI 16)) 0 10 (nI j)) 0 5 (nI 2)) H))) := by
  intro d
  induction d with
  | zero =>
    intro i GG Z T h acc fuel hd h15 hf hW t c
    obtain ⟨fuel, rfl⟩ : ∃ y, fuel = y + 1 := ⟨fuel - 1, by omega⟩
    obtain ⟨n, R, I⟩ := t
    refine ⟨h, GG, Z, XL, hW, fun _ _ => rfl, ⟨fun j hj => R_si2 R hj, R.2.2.2.2.2.2⟩, fun _ _ => rfl, .inl ⟨T, rfl, ⟨n, R, I⟩, ?_, fun l M H fu hfu hl hM m => ?_⟩⟩
    · rw [F_X5_isAnyOrderRefused_L13, X_ord hW, Option.bind_some, O_n hW, Option.bind_some, c.1, if_pos (nI_le (by omega) (by omega))]
    · obtain ⟨fu, rfl⟩ : ∃ y, fu = y + 1 := ⟨fu - 1, by omega⟩
      rw [F_X6_run_L42, mg_22 hl, Option.bind_some, m.1, if_pos (nI_le (by omega) (by omega)), ← hM, mT_s]
  | succ d ih =>
    intro i GG Z T h acc fuel hd h15 hf hW t c
    obtain ⟨fuel, rfl⟩ : ∃ y, fuel = y + 1 := ⟨fuel - 1, by omega⟩
    obtain ⟨n, hn, hT, R, I⟩ := TR_n t
    obtain ⟨q, q1, q2, q3, q4⟩ := so_k hW R I hT hn c (show i < acc.length by omega) h15
    cases hq : q with
    | none =>
      obtain ⟨x, T2, g', w', n', a1, a2, a3, a4⟩ := q3 hq
      have W1 := WD_tp (g' := g') (w' := w') hW (show 1 < 11 by decide)
      have z1 : ∀ a, ¬ (16 ≤ a ∧ a < 32) → zu_ Z (16 * 1) 16 w' a = Z a := fun a ha => zu_out (by omega)
      have t1 : TR_ (va_up GG 1 g') (zu_ Z (16 * 1) 16 w') 1 T2 := ⟨n', by rw [va_up_self]; exact R_cg a2 (fun i hi => zu_in hi), a3⟩
      have c1 : CO_ v (zu_ Z (16 * 1) 16 w') acc := ⟨by rw [z1 189 (by omega)]; exact c.1, fun i hi => by rw [z1 190 (by omega), z1 (192 + i) (by omega)]; exact c.2 i hi⟩
      obtain ⟨h', GG', Z', XL', W2, g2, gs2, z2, r⟩ := ih (i + 1) _ _ T2 _ acc fuel (by omega) h15 (by omega) W1 t1 c1
      have step : F_X5_isAnyOrderRefused_L13 (fuel + 1) (A 209) (nI i) h = F_X5_isAnyOrderRefused_L13 fuel (A 209) (nI (i + 1)) (tv_ (lt_ A 1) g' w' h) := by
        rw [F_X5_isAnyOrderRefused_L13, X_ord hW, Option.bind_some, O_n hW, Option.bind_some, c.1, if_neg (nI_ge (show i < acc.length by omega) (by omega)), Option.bind_some, X_draft hW, Option.bind_some, O_is hW, Option.bind_some, q2, hq, Option.bind_some, if_pos (show lg_cmp (rL_ none) (kl 0) = 0 from rf_kl), Option.bind_some, Option.bind_some, O_is hW, Option.bind_some, a1, Option.bind_some, nI_s]
      have mstep : ∀ (l : Nat → Nat) (M : Nat → Nat → Int32) (H : mm_S) (fu : Nat), ov_L 11 l H → M 1 = T → MO_ v M acc → F_X6_run_L42 (fu + 1) (l 0) (nI i) (mv_ l M H) = F_X6_run_L42 fu (l 0) (nI (i + 1)) (mv_ l (mT_ M T2) H) := fun l M H fu hl hM m => by
        rw [F_X6_run_L42, mg_22 hl, Option.bind_some, m.1, if_neg (nI_ge (show i < acc.length by omega) (by omega)), mv_is hl, Option.bind_some, a4 l M H hl hM m, Option.bind_some]
        dsimp only
        rw [if_neg (show ¬ (ki 0 ≠ 0) by decide), nI_s]
      have mo : ∀ M : Nat → Nat → Int32, MO_ v M acc → MO_ v (mT_ M T2) acc := fun M m => ⟨by rw [mT_n (by decide)]; exact m.1, fun i hi => by rw [mT_n (by decide), mT_n (by decide)]; exact m.2 i hi⟩
      refine ⟨h', GG', Z', XL', W2, fun k hk => by rw [g2 k hk, va_up_ne _ _ hk], gs2, fun a ha => by rw [z2 a ha, z1 a ha], ?_⟩
      rcases r with ⟨T3, r1, r2, r3, r4⟩ | ⟨j, r, T3, r1, r2, r3, r4, r5, r6⟩
      · refine .inl ⟨T3, r1, r2, step.trans r3, fun l M H fu hfu hl hM m => ?_⟩
        obtain ⟨fu, rfl⟩ : ∃ y, fu = y + 1 := ⟨fu - 1, by omega⟩
        rw [mstep l M H fu hl hM m, r4 l (mT_ M T2) H fu (by omega) hl mT_1 (mo M m), mT_T]
      · refine .inr ⟨j, r, T3, r1, r2, r3, r4, step.trans r5, fun l M H fu hfu hl hM m => ?_⟩
        obtain ⟨fu, rfl⟩ : ∃ y, fu = y + 1 := ⟨fu - 1, by omega⟩
        rw [mstep l M H fu hl hM m, r6 l (mT_ M T2) H fu (by omega) hl mT_1 (mo M m), mT_T]
    | some r =>
      have hr := q1 r hq
      obtain ⟨h1, e1, W1⟩ := X_pL (v := rf_ (nI 16) (nI i)) (k := 10) hW (.inl rfl)
      obtain ⟨h2, e2, W2⟩ := X_pL (v := rf_ r.1 r.2) (k := 11) W1 (.inr rfl)
      refine ⟨h2, GG, Z, _, W2, fun _ _ => rfl, ⟨fun j hj => R_si2 R hj, R.2.2.2.2.2.2⟩, fun _ _ => rfl, .inr ⟨i, r, T, hr, by omega, rfl, rfl, ?_, fun l M H fu hfu hl hM m => ?_⟩⟩
      · have hne : lg_cmp (rL_ (some r)) (kl 0) ≠ 0 := rf_ne r.2 hr
        have erf : F_X5_refusalFor h (kb 16) (nI i) = some (rf_ (nI 16) (nI i)) := by rw [kk_b16]; exact c_rf h _ _
        rw [F_X5_isAnyOrderRefused_L13, X_ord hW, Option.bind_some, O_n hW, Option.bind_some, c.1, if_neg (nI_ge (show i < acc.length by omega) (by omega)), Option.bind_some, X_draft hW, Option.bind_some, O_is hW, Option.bind_some, q2, hq, Option.bind_some, if_neg hne, erf, Option.bind_some, e1, Option.bind_some, show rL_ (some r) = rf_ r.1 r.2 from rfl, e2, Option.bind_some]
      · obtain ⟨fu, rfl⟩ : ∃ y, fu = y + 1 := ⟨fu - 1, by omega⟩
        have a7 : mC_ (mW_ M r) 2 0 1 0 110 0 7 = r.1 := by
          rw [mC_v, if_neg (by omega)]
          unfold mW_
          rw [w2_n2 (by omega), w2_at]
        have a8 : w2_ (mC_ (mW_ M r) 2 0 1 0 110) 0 11 r.1 0 8 = r.2 := by
          rw [w2_n2 (by omega), mC_v, if_neg (by omega)]
          unfold mW_
          rw [w2_at]
        rw [F_X6_run_L42, mg_22 hl, Option.bind_some, m.1, if_neg (nI_ge (show i < acc.length by omega) (by omega)), mv_is hl, Option.bind_some, q4 r hq l M H hl hM m, Option.bind_some]
        dsimp only
        rw [if_pos (show ki 1 ≠ 0 by decide), mr_1 hl, Option.bind_some, mr_0 hl, Option.bind_some, kj_i0, m_copies hl (fun _ _ hk => ma_2 hl hk) (fun _ _ _ hk => ms_1 hl hk) (by decide) (by decide) (.inl (by decide)), Option.bind_some, mg_7 hl, Option.bind_some, a7, mp_11 hl, Option.bind_some, mg_8 hl, Option.bind_some, a8, mp_12 hl, Option.bind_some, kk_b16, mp_9 hl, Option.bind_some, mp_10 hl, Option.bind_some, mv_is hl, Option.bind_some, kj_i2, m_noE hl, Option.bind_some]
        rw [← hM, mT_s]
end RU

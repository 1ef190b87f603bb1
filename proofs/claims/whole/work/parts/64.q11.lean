/-! going back, saving, coming back -/
section W11
variable {A : Nat → Nat} {GG : Nat → Nat → Nat} {Z : Nat → Nat → Int32} {XL : Nat → Int64} {cap : Nat} {K : Nat → mm_Ce} {h h1 : mm_S} {T : Nat → Int32}
theorem vz_id {α : Type} {f : Nat → α} {k : Nat} : va_up f k (f k) = f := by
  funext x
  unfold va_up
  split
  · next q => rw [q]
  · rfl
theorem x_copy (hW : WD_ A GG Z XL cap K h) {k k2 : Nat} (hk : k < 11) (hk2 : k2 < 11) (hne : k ≠ k2) (hg : gs_ (GG k)) (t : TR_ GG Z k2 T) : ∃ h' w', F_X3_copyFrom h (A (16 * k)) (A (16 * k2)) = some h' ∧ WD_ A GG (zu_ Z (16 * k) 16 w') XL cap K h' ∧ TR_ GG (zu_ Z (16 * k) 16 w') k T := by
  obtain ⟨n, R, I⟩ := t
  obtain ⟨w', e1, R1⟩ := c_copy (g := GG k) (w := wt_ Z k) (WD_D hW hk hk2 hne) R hg.1 hg.2
  rw [(WD_t hW hk).2] at e1
  have W1 := WD_tp (g' := GG k) (w' := w') hW hk
  rw [vz_id] at W1
  exact ⟨_, w', e1, W1, n, R_cg R1 (fun i hi => zu_in hi), I⟩
theorem tis_ (hW : WD_ A GG Z XL cap K h) {k : Nat} (hk : k < 11) : fx_is h (A (16 * k)) 3 = some () := by
  have z := tv_is (g := GG k) (w := wt_ Z k) (WD_t hW hk).1
  rw [(WD_t hW hk).2] at z
  exact z
theorem m5_0 {M : Nat → Nat → Int32} {v : Int32} {k : Nat} (hk : k ≠ 5) : m5_ M v 0 k = M 0 k := w2_n2 (by omega)
theorem NB_no (W1 : WD_ A GG Z XL cap K h1) (s : SM_ GG Z XL cap) {v : Int32} : ST_ A K (mv_ (lm_ A) (m5_ (mw_ Z) v) h1) ∧ fx_gI (mv_ (lm_ A) (m5_ (mw_ Z) v) h1) (A 213) 6 5 = some v := by
  obtain ⟨a1, a2⟩ := NB_ST W1 s (NB_m5 (M := mw_ Z) (k := v))
  exact ⟨a1, a2.trans (congrArg some w5_5)⟩
theorem o_undo (hs : ST_ A K h) : RS_ A K exS_ (F_X5_undo h (A 209)) (fun h1 => F_X6_undo h1 (A 213)) := by
  obtain ⟨GG, Z, XL, cap, hW, s⟩ := hs
  obtain ⟨s1, s2, s3, ⟨c, p, hc, hp, ec, ep, em6, s4⟩, s5, s6, s7, s8⟩ := id s
  by_cases h0 : c = 0
  · subst h0
    refine q_gen (q := .inr 0) hW s ?_ (fun K h hW => ⟨m5_ (mw_ Z) (nI 1), ?_, NB_m5, w5_5⟩) (fun i e => by cases e; decide)
    · unfold F_X5_undo
      rw [X_cnt hW, Option.bind_some, ec, if_neg (fun q => q rfl)]
      rfl
    · have hl := (WD_m hW).1
      show F_X6_undo (mv_ (lm_ A) (mw_ Z) h) (lm_ A 0) = _
      unfold F_X6_undo
      rw [kj_i0, m5_e hl, Option.bind_some, mg_6 hl, Option.bind_some, m5_0 (by decide), show mw_ Z 0 6 = nI 0 from em6, if_neg (fun q => q rfl), mv_is hl, Option.bind_some, kj_i1, m5_n hl, Option.bind_some, m5_5]
      rfl
  · have hcn : nI c ≠ 0 := nI_ne0 (by omega) (by omega)
    have hp' : (p + 7) % 8 < 8 := Nat.mod_lt _ (by decide)
    have erem : fx_rem ((nI p + nI 8) - nI 1) (nI 8) = some (nI ((p + 7) % 8)) := by
      unfold fx_rem
      rw [if_neg (by decide), nI_add, pk_sub (by omega), pk_rem (by omega) (by decide) (by decide), show p + 8 - 1 = p + 7 from rfl]
    obtain ⟨h1, e1, W1⟩ := X_pI (k := 6) (v := nI ((p + 7) % 8)) hW (by decide) (fun _ => rfl) (fit_int _)
    rw [zu_x (w := Z) (by decide)] at W1
    obtain ⟨h2, e2, W2⟩ := X_pI (k := 5) (v := nI (c - 1)) W1 (by decide) (fun _ => rfl) (fit_int _)
    rw [zu_x (w := Z) (by decide)] at W2
    generalize hZ2 : w2_ (w2_ Z (209 + 0) 6 (nI ((p + 7) % 8))) (209 + 0) 5 (nI (c - 1)) = Z2 at W2
    have z2 : ∀ i, i ≠ 209 → Z2 i = Z i := fun i hi => by rw [← hZ2, w2_ne hi, w2_ne hi]
    have z25 : Z2 209 5 = nI (c - 1) := by rw [← hZ2]; exact w2_at
    have z26 : Z2 209 6 = nI ((p + 7) % 8) := by rw [← hZ2]; exact (w2_n2 (by omega)).trans w2_at
    have z2k : ∀ k, k ≠ 5 → k ≠ 6 → Z2 209 k = Z 209 k := fun k h5 h6 => by rw [← hZ2]; exact (w2_n2 (by omega)).trans (w2_n2 (by omega))
    have t0 := s4 (c - 1) (by omega)
    rw [show (p + 8 - c + (c - 1)) % 8 = (p + 7) % 8 from by omega] at t0
    have t2 : TR_ GG Z2 (3 + (p + 7) % 8) (fun k => Z 218 (110 * (c - 1) + k)) := TR_cg t0 rfl (fun i hi => z2 _ (by omega)) (fun _ _ => rfl)
    obtain ⟨h3, w', e3, W3, t3⟩ := x_copy W2 (show 0 < 11 by decide) (show 3 + (p + 7) % 8 < 11 by omega) (by omega) (s2 0 (by decide)) t2
    have z3 : ∀ i, 16 ≤ i → zu_ Z2 (16 * 0) 16 w' i = Z2 i := fun i hi => zu_out (by omega)
    have ecl : F_X5_undo h (A 209) = some (.inl (nI (c - 1)), h3) := by
      unfold F_X5_undo
      rw [X_cnt hW, Option.bind_some, ec, if_pos hcn, X_nxt hW, Option.bind_some, ep, kk_b8, kj_i1, erem, Option.bind_some, e1, Option.bind_some, X_cnt W1, Option.bind_some]
      rw [show w2_ Z (209 + 0) 6 (nI ((p + 7) % 8)) 209 5 = nI c from (w2_n2 (by omega)).trans ec, pk_sub (by omega), e2, Option.bind_some, X_now W2, Option.bind_some, X_ear W2, Option.bind_some, X_nxt W2, Option.bind_some, z26, X_aE W2 hp', Option.bind_some, show fx_is h2 (A 0) 3 = some () from tis_ W2 (show 0 < 11 by decide), Option.bind_some, show 48 + 16 * ((p + 7) % 8) = 16 * (3 + (p + 7) % 8) from by omega, show F_X3_copyFrom h2 (A 0) (A (16 * (3 + (p + 7) % 8))) = some h3 from e3, Option.bind_some, X_cnt W3, Option.bind_some, z3 209 (by decide), z25]
    refine ⟨_, h3, _, nI 0, ecl, .inl ⟨rfl, rfl⟩, ⟨_, _, _, _, W3⟩, fun K h3 HX => ?_⟩
    have W3 := HX _ _ _ _ W3
    obtain ⟨hl, em⟩ := WD_m W3
    generalize hZ3 : zu_ Z2 (16 * 0) 16 w' = Z3 at *
    have m0 : ∀ k, mw_ Z3 0 k = Z 213 k := fun k => by show Z3 213 k = _; rw [z3 213 (by decide), z2 213 (by decide)]
    have mj : ∀ j, mw_ Z3 j = Z (213 + j) := fun j => by show Z3 (213 + j) = _; rw [z3 _ (by omega), z2 _ (by omega)]
    have emd : F_X6_undo (mv_ (lm_ A) (mw_ Z3) h3) (lm_ A 0) = some (nI (c - 1), mv_ (lm_ A) (mC_ (w2_ (m5_ (mw_ Z3) (nI 0)) 0 6 (nI (c - 1))) 5 (110 * (c - 1)) 1 0 110) h3) := by
      have e6 : w2_ (m5_ (mw_ Z3) (nI 0)) 0 6 (nI (c - 1)) 0 6 = nI (c - 1) := w2_at
      have e6' : mC_ (w2_ (m5_ (mw_ Z3) (nI 0)) 0 6 (nI (c - 1))) 5 (110 * (c - 1)) 1 0 110 0 6 = nI (c - 1) := by rw [mC_v, if_neg (by omega), e6]
      unfold F_X6_undo
      rw [kj_i0, m5_e hl, Option.bind_some, mg_6 hl, Option.bind_some, m5_0 (by decide), m0, em6, if_pos hcn, Option.bind_some, kj_i1, pk_sub (by omega), mp_6 hl, Option.bind_some, mr_4 hl, Option.bind_some, mg_6 hl, Option.bind_some, e6, mr_0 hl, Option.bind_some, kk_b110, pk_mul, m_copies hl (fun _ _ hk => ma_5 hl hk) (fun _ _ _ hk => ms_1 hl hk) (by omega) (by decide) (.inl (by decide)), Option.bind_some, mg_6 hl, Option.bind_some, e6']
    rw [em] at emd
    generalize hMK : mC_ (w2_ (m5_ (mw_ Z3) (nI 0)) 0 6 (nI (c - 1))) 5 (110 * (c - 1)) 1 0 110 = MK at emd
    have k06 : MK 0 6 = nI (c - 1) := by rw [← hMK, mC_v, if_neg (by omega), w2_at]
    have k05 : MK 0 5 = nI 0 := by rw [← hMK, mC_v, if_neg (by omega), w2_n2 (by omega)]; exact w5_5
    have k0 : ∀ k, k ≠ 5 → k ≠ 6 → MK 0 k = Z 213 k := fun k h5 h6 => by rw [← hMK, mC_v, if_neg (by omega), w2_n2 (by omega), m5_0 h5, m0]
    have kj : ∀ j, j ≠ 0 → j ≠ 1 → MK j = Z (213 + j) := fun j h0 h1 => by
      rw [← hMK]
      funext k
      rw [mC_v, if_neg (by omega), w2_n2 (by omega), m5_r h0, mj]
    have k1 : ∀ k, k < 110 → MK 1 k = Z 218 (110 * (c - 1) + k) := fun k hk => by
      rw [← hMK, mC_v, if_pos (by omega), w2_n2 (by omega), m5_r (by decide), mj, Nat.sub_zero]
    have W4 := WD_mp (M' := MK) W3
    refine ⟨_, emd, ?_, _, _, _, _, W4, ?_⟩
    · rw [mg5 W4, show zu_ Z3 213 11 MK 213 = MK 0 from zm_in (j := 0) (by decide), k05]
    · have zM : ∀ j, j < 11 → zu_ Z3 213 11 MK (213 + j) = MK j := fun j hj => zm_in hj
      have zz : ∀ i, i < 213 → zu_ Z3 213 11 MK i = Z3 i := fun i hi => zm_out hi
      have zc : ∀ i, 16 ≤ i → i < 209 → zu_ Z3 213 11 MK i = Z i := fun i h1 h2 => by rw [zz i (by omega), z3 i h1, z2 i (by omega)]
      have zd : ∀ i, 209 < i → i < 213 → zu_ Z3 213 11 MK i = Z i := fun i h1 h2 => by rw [zz i (by omega), z3 i (by omega), z2 i (by omega)]
      have z9 : zu_ Z3 213 11 MK 209 = Z2 209 := by rw [zz 209 (by decide), z3 209 (by decide)]
      have zM0 : zu_ Z3 213 11 MK 213 = MK 0 := zM 0 (by decide)
      refine ⟨?_, s2, ?_, ⟨c - 1, (p + 7) % 8, by omega, hp', ?_, ?_, ?_, fun i hi => ?_⟩, ?_, ?_, ?_, ?_⟩
      · rw [show zu_ Z3 213 11 MK 214 = MK 1 from zM 1 (by decide)]
        exact TR_cg t3 rfl (fun i hi => zz _ (by omega)) k1
      · rw [z9, z2k 3 (by decide) (by decide), zM0, k0 14 (by decide) (by decide), show zu_ Z3 213 11 MK 217 = MK 4 from zM 4 (by decide), kj 4 (by decide) (by decide)]
        exact ⟨s3.1, s3.2.elim .inl (fun q => .inr ⟨q.1, TR_cg q.2 rfl (fun i hi => zc _ (by omega) (by omega)) (fun _ _ => rfl)⟩)⟩
      · rw [z9, z25]
      · rw [z9, z26]
      · rw [zM0, k06]
      · rw [show zu_ Z3 213 11 MK 218 = MK 5 from zM 5 (by decide), kj 5 (by decide) (by decide), show ((p + 7) % 8 + 8 - (c - 1) + i) % 8 = (p + 8 - c + i) % 8 from by omega]
        have hm := Nat.mod_lt (p + 8 - c + i) (show 0 < 8 by decide)
        exact TR_cg (s4 i (by omega)) rfl (fun j hj => zc _ (by omega) (by omega)) (fun _ _ => rfl)
      · rw [zM0, k0 9 (by decide) (by decide), k0 10 (by decide) (by decide), k0 11 (by decide) (by decide), k0 12 (by decide) (by decide)]
        exact s5
      · rw [z9, z2k 9 (by decide) (by decide), zM0, k0 13 (by decide) (by decide)]
        exact s6
      · rw [zc 207 (by decide) (by decide), zc 208 (by decide) (by decide), zM0, k0 19 (by decide) (by decide), show zu_ Z3 213 11 MK 220 = MK 7 from zM 7 (by decide), kj 7 (by decide) (by decide)]
        exact s7
      · rw [zd 211 (by decide) (by decide), zd 212 (by decide) (by decide), zM0, k0 25 (by decide) (by decide), show zu_ Z3 213 11 MK 223 = MK 10 from zM 10 (by decide), kj 10 (by decide) (by decide)]
        exact s8
theorem o_save (hs : ST_ A K h) : PS_ A K (F_X5_save h (A 209)) (fun h1 => F_X6_save h1 (A 213)) := by
  obtain ⟨GG, Z, XL, cap, hW, s⟩ := hs
  obtain ⟨s1, s2, s3, ⟨c, p, hc, hp, ec, ep, em6, s4⟩, s5, s6, s7, s8⟩ := id s
  obtain ⟨n, hn, hT, R, I⟩ := TR_n s1
  obtain ⟨h1, w', e1, W1, t1⟩ := x_copy hW (show 2 < 11 by decide) (show 0 < 11 by decide) (by decide) (s2 2 (by decide)) s1
  obtain ⟨h2, e2, W2⟩ := X_pI (k := 3) (v := nI 1) W1 (by decide) (fun _ => rfl) nI1_fit
  rw [zu_x (w := Z) (by decide)] at W2
  generalize hZ2 : w2_ (zu_ Z (16 * 2) 16 w') (209 + 0) 3 (nI 1) = Z2 at W2
  have z2 : ∀ i, ¬ (32 ≤ i ∧ i < 48) → i ≠ 209 → Z2 i = Z i := fun i h1 h2 => by rw [← hZ2, w2_ne h2, zu_out (by omega)]
  have z2t : ∀ i, i < 16 → Z2 (16 * 2 + i) = zu_ Z (16 * 2) 16 w' (16 * 2 + i) := fun i hi => by rw [← hZ2, w2_ne (by omega)]
  have z23 : Z2 209 3 = nI 1 := by rw [← hZ2]; exact w2_at
  have z2k : ∀ k, k ≠ 3 → Z2 209 k = Z 209 k := fun k h3 => by rw [← hZ2]; exact (w2_n2 (by omega)).trans (by rw [zu_out (by decide)])
  have R2 : R_ (GG 0) (wt_ Z2 0) (Z 214) n := R_cg R (fun i hi => z2 _ (by omega) (by omega))
  have ecl : F_X5_save h (A 209) = some (nI n, h2) := by
    unfold F_X5_save
    rw [X_saved hW, Option.bind_some, X_now hW, Option.bind_some, show fx_is h (A 32) 3 = some () from tis_ hW (show 2 < 11 by decide), Option.bind_some, show F_X3_copyFrom h (A 32) (A 0) = some h1 from e1, Option.bind_some, kj_i1, e2, Option.bind_some, X_now W2, Option.bind_some, N_n W2 R2, Option.bind_some]
  obtain ⟨hl, em⟩ := WD_m W2
  have mj : ∀ j, mw_ Z2 j = Z (213 + j) := fun j => z2 _ (by omega) (by omega)
  have emd : F_X6_save (mv_ (lm_ A) (mw_ Z2) h2) (lm_ A 0) = some (nI n, mv_ (lm_ A) (w2_ (mC_ (m5_ (mw_ Z2) (nI 0)) 1 0 4 0 110) 0 14 (nI 1)) h2) := by
    have e0 : w2_ (mC_ (m5_ (mw_ Z2) (nI 0)) 1 0 4 0 110) 0 14 (nI 1) 1 0 = nI n := by rw [w2_n2 (by omega), mC_v, if_neg (by omega), m5_r (by decide), mj]; exact hT
    unfold F_X6_save
    rw [kj_i0, m5_e hl, Option.bind_some, mr_0 hl, Option.bind_some, mr_3 hl, Option.bind_some, m_copies hl (fun _ _ hk => ma_1 hl hk) (fun _ _ _ hk => ms_4 hl hk) (by decide) (by decide) (.inl (by decide)), Option.bind_some, kj_i1, mp_14 hl nI1_fit, Option.bind_some, mr_0 hl, Option.bind_some, m_at hl (by decide), Option.bind_some, e0]
  rw [em] at emd
  generalize hMK : w2_ (mC_ (m5_ (mw_ Z2) (nI 0)) 1 0 4 0 110) 0 14 (nI 1) = MK at emd
  have k0 : ∀ k, k ≠ 5 → k ≠ 14 → MK 0 k = Z 213 k := fun k h5 h6 => by rw [← hMK, w2_n2 (by omega), mC_v, if_neg (by omega), m5_0 h5, mj]
  have k014 : MK 0 14 = nI 1 := by rw [← hMK, w2_at]
  have kj : ∀ j, j ≠ 0 → j ≠ 4 → MK j = Z (213 + j) := fun j h0 h1 => by
    rw [← hMK]
    funext k
    rw [w2_n2 (by omega), mC_v, if_neg (by omega), m5_r h0, mj]
  have k4 : ∀ k, k < 110 → MK 4 k = Z 214 k := fun k hk => by
    rw [← hMK, w2_n2 (by omega), mC_v, if_pos (by omega), m5_r (by decide), mj, Nat.zero_add, Nat.sub_zero]
  have W4 := WD_mp (M' := MK) W2
  refine ⟨h2, _, _, ecl, emd, _, _, _, _, W4, ?_⟩
  have zM : ∀ j, j < 11 → zu_ Z2 213 11 MK (213 + j) = MK j := fun j hj => zm_in hj
  have zz : ∀ i, i < 213 → zu_ Z2 213 11 MK i = Z2 i := fun i hi => zm_out hi
  have zc : ∀ i, ¬ (32 ≤ i ∧ i < 48) → i ≠ 209 → i < 213 → zu_ Z2 213 11 MK i = Z i := fun i h1 h2 h3 => by rw [zz i h3, z2 i h1 h2]
  have z9 : zu_ Z2 213 11 MK 209 = Z2 209 := zz 209 (by decide)
  have zM0 : zu_ Z2 213 11 MK 213 = MK 0 := zM 0 (by decide)
  refine ⟨?_, s2, ?_, ⟨c, p, hc, hp, ?_, ?_, ?_, fun i hi => ?_⟩, ?_, ?_, ?_, ?_⟩
  · rw [show zu_ Z2 213 11 MK 214 = MK 1 from zM 1 (by decide), kj 1 (by decide) (by decide)]
    exact TR_cg s1 rfl (fun i hi => zc _ (by omega) (by omega) (by omega)) (fun _ _ => rfl)
  · rw [z9, z23, zM0, k014, show zu_ Z2 213 11 MK 217 = MK 4 from zM 4 (by decide)]
    exact ⟨rfl, .inr ⟨rfl, TR_cg t1 rfl (fun i hi => by rw [zz _ (by omega), z2t i hi]) k4⟩⟩
  · rw [z9, z2k 5 (by decide), ec]
  · rw [z9, z2k 6 (by decide), ep]
  · rw [zM0, k0 6 (by decide) (by decide), em6]
  · rw [show zu_ Z2 213 11 MK 218 = MK 5 from zM 5 (by decide), kj 5 (by decide) (by decide)]
    have hm := Nat.mod_lt (p + 8 - c + i) (show 0 < 8 by decide)
    exact TR_cg (s4 i hi) rfl (fun j hj => zc _ (by omega) (by omega) (by omega)) (fun _ _ => rfl)
  · rw [zM0, k0 9 (by decide) (by decide), k0 10 (by decide) (by decide), k0 11 (by decide) (by decide), k0 12 (by decide) (by decide)]
    exact s5
  · rw [z9, z2k 9 (by decide), zM0, k0 13 (by decide) (by decide)]
    exact s6
  · rw [zc 207 (by decide) (by decide) (by decide), zc 208 (by decide) (by decide) (by decide), zM0, k0 19 (by decide) (by decide), show zu_ Z2 213 11 MK 220 = MK 7 from zM 7 (by decide), kj 7 (by decide) (by decide)]
    exact s7
  · rw [zc 211 (by decide) (by decide) (by decide), zc 212 (by decide) (by decide) (by decide), zM0, k0 25 (by decide) (by decide), show zu_ Z2 213 11 MK 223 = MK 10 from zM 10 (by decide), kj 10 (by decide) (by decide)]
    exact s8
theorem o_restore (hs : ST_ A K h) : RS_ A K exS_ (F_X5_restore h (A 209)) (fun h1 => F_X6_restore h1 (A 213)) := by
  obtain ⟨GG, Z, XL, cap, hW, s⟩ := hs
  obtain ⟨s1, s2, ⟨s3a, s3⟩, ⟨c, p, hc, hp, ec, ep, em6, s4⟩, s5, s6, s7, s8⟩ := id s
  rcases s3 with e3 | ⟨e3, tS⟩
  · refine q_gen (q := .inr 0) hW s ?_ (fun K h hW => ⟨m5_ (mw_ Z) (nI 1), ?_, NB_m5, w5_5⟩) (fun i e => by cases e; decide)
    · unfold F_X5_restore
      rw [X_iss hW, Option.bind_some, e3, if_neg (fun q => q rfl)]
      rfl
    · have hl := (WD_m hW).1
      show F_X6_restore (mv_ (lm_ A) (mw_ Z) h) (lm_ A 0) = _
      unfold F_X6_restore
      rw [kj_i0, m5_e hl, Option.bind_some, mg_14 hl, Option.bind_some, m5_0 (by decide), show mw_ Z 0 14 = nI 0 from s3a.symm.trans e3, if_neg (fun q => q rfl), mv_is hl, Option.bind_some, kj_i1, m5_n hl, Option.bind_some, m5_5]
      rfl
  · obtain ⟨n, hn, hT, RS, IS⟩ := TR_n tS
    obtain ⟨h1, w', e1, W1, t1⟩ := x_copy hW (show 0 < 11 by decide) (show 2 < 11 by decide) (by decide) (s2 0 (by decide)) tS
    obtain ⟨h2, e2, W2⟩ := X_pI (k := 5) (v := nI 0) W1 (by decide) (fun _ => rfl) (fit_int _)
    rw [zu_x (w := Z) (by decide)] at W2
    generalize hZ2 : w2_ (zu_ Z (16 * 0) 16 w') (209 + 0) 5 (nI 0) = Z2 at W2
    have z2 : ∀ i, 16 ≤ i → i ≠ 209 → Z2 i = Z i := fun i h1 h2 => by rw [← hZ2, w2_ne h2, zu_out (by omega)]
    have z2t : ∀ i, i < 16 → Z2 (16 * 0 + i) = zu_ Z (16 * 0) 16 w' (16 * 0 + i) := fun i hi => by rw [← hZ2, w2_ne (by omega)]
    have z25 : Z2 209 5 = nI 0 := by rw [← hZ2]; exact w2_at
    have z2k : ∀ k, k ≠ 5 → Z2 209 k = Z 209 k := fun k h3 => by rw [← hZ2]; exact (w2_n2 (by omega)).trans (by rw [zu_out (by decide)])
    have t2 : TR_ GG Z2 0 (Z 217) := TR_cg t1 rfl z2t (fun _ _ => rfl)
    obtain ⟨n', hn', hT', R2, -⟩ := TR_n t2
    have enn : n' = n := n_v hT' hn' hT hn
    subst enn
    have ecl : F_X5_restore h (A 209) = some (.inl (nI n'), h2) := by
      unfold F_X5_restore
      rw [X_iss hW, Option.bind_some, e3, if_pos (by decide), X_now hW, Option.bind_some, X_saved hW, Option.bind_some, show fx_is h (A 0) 3 = some () from tis_ hW (show 0 < 11 by decide), Option.bind_some, show F_X3_copyFrom h (A 0) (A 32) = some h1 from e1, Option.bind_some, kj_i0, e2, Option.bind_some, X_now W2, Option.bind_some, N_n W2 R2, Option.bind_some]
    refine ⟨_, h2, _, nI 0, ecl, .inl ⟨rfl, rfl⟩, ⟨_, _, _, _, W2⟩, fun K h2 HX => ?_⟩
    have W2 := HX _ _ _ _ W2
    obtain ⟨hl, em⟩ := WD_m W2
    have mj : ∀ j, mw_ Z2 j = Z (213 + j) := fun j => z2 _ (by omega) (by omega)
    have emd : F_X6_restore (mv_ (lm_ A) (mw_ Z2) h2) (lm_ A 0) = some (nI n', mv_ (lm_ A) (w2_ (mC_ (m5_ (mw_ Z2) (nI 0)) 4 0 1 0 110) 0 6 (nI 0)) h2) := by
      have e0 : w2_ (mC_ (m5_ (mw_ Z2) (nI 0)) 4 0 1 0 110) 0 6 (nI 0) 1 0 = nI n' := by rw [w2_n2 (by omega), mC_v, if_pos (by omega), m5_r (by decide), mj]; exact hT
      unfold F_X6_restore
      rw [kj_i0, m5_e hl, Option.bind_some, mg_14 hl, Option.bind_some, m5_0 (by decide), mj, show Z (213 + 0) 14 = nI 1 from s3a.symm.trans e3, if_pos (by decide), mr_3 hl, Option.bind_some, mr_0 hl, Option.bind_some, m_copies hl (fun _ _ hk => ma_4 hl hk) (fun _ _ _ hk => ms_1 hl hk) (by decide) (by decide) (.inl (by decide)), Option.bind_some, mp_6 hl, Option.bind_some, mr_0 hl, Option.bind_some, m_at hl (by decide), Option.bind_some, e0]
    rw [em] at emd
    generalize hMK : w2_ (mC_ (m5_ (mw_ Z2) (nI 0)) 4 0 1 0 110) 0 6 (nI 0) = MK at emd
    have k06 : MK 0 6 = nI 0 := by rw [← hMK, w2_at]
    have k05 : MK 0 5 = nI 0 := by rw [← hMK, w2_n2 (by omega), mC_v, if_neg (by omega)]; exact w5_5
    have k0 : ∀ k, k ≠ 5 → k ≠ 6 → MK 0 k = Z 213 k := fun k h5 h6 => by rw [← hMK, w2_n2 (by omega), mC_v, if_neg (by omega), m5_0 h5, mj]
    have kj : ∀ j, j ≠ 0 → j ≠ 1 → MK j = Z (213 + j) := fun j h0 h1 => by
      rw [← hMK]
      funext k
      rw [w2_n2 (by omega), mC_v, if_neg (by omega), m5_r h0, mj]
    have k1 : ∀ k, k < 110 → MK 1 k = Z 217 k := fun k hk => by
      rw [← hMK, w2_n2 (by omega), mC_v, if_pos (by omega), m5_r (by decide), mj, Nat.zero_add, Nat.sub_zero]
    have W4 := WD_mp (M' := MK) W2
    have zM : ∀ j, j < 11 → zu_ Z2 213 11 MK (213 + j) = MK j := fun j hj => zm_in hj
    have zz : ∀ i, i < 213 → zu_ Z2 213 11 MK i = Z2 i := fun i hi => zm_out hi
    have zc : ∀ i, 16 ≤ i → i ≠ 209 → i < 213 → zu_ Z2 213 11 MK i = Z i := fun i h1 h2 h3 => by rw [zz i h3, z2 i h1 h2]
    have z9 : zu_ Z2 213 11 MK 209 = Z2 209 := zz 209 (by decide)
    have zM0 : zu_ Z2 213 11 MK 213 = MK 0 := zM 0 (by decide)
    refine ⟨_, emd, ?_, _, _, _, _, W4, ?_⟩
    · rw [mg5 W4, zM0, k05]
    refine ⟨?_, s2, ?_, ⟨0, p, by omega, hp, ?_, ?_, ?_, fun i hi => absurd hi (by omega)⟩, ?_, ?_, ?_, ?_⟩
    · rw [show zu_ Z2 213 11 MK 214 = MK 1 from zM 1 (by decide)]
      exact TR_cg t2 rfl (fun i hi => zz _ (by omega)) k1
    · rw [z9, z2k 3 (by decide), zM0, k0 14 (by decide) (by decide), show zu_ Z2 213 11 MK 217 = MK 4 from zM 4 (by decide), kj 4 (by decide) (by decide)]
      exact ⟨s3a, .inr ⟨e3, TR_cg tS rfl (fun i hi => zc _ (by omega) (by omega) (by omega)) (fun _ _ => rfl)⟩⟩
    · rw [z9, z25]
    · rw [z9, z2k 6 (by decide), ep]
    · rw [zM0, k06]
    · rw [zM0, k0 9 (by decide) (by decide), k0 10 (by decide) (by decide), k0 11 (by decide) (by decide), k0 12 (by decide) (by decide)]
      exact s5
    · rw [z9, z2k 9 (by decide), zM0, k0 13 (by decide) (by decide)]
      exact s6
    · rw [zc 207 (by decide) (by decide) (by decide), zc 208 (by decide) (by decide) (by decide), zM0, k0 19 (by decide) (by decide), show zu_ Z2 213 11 MK 220 = MK 7 from zM 7 (by decide), kj 7 (by decide) (by decide)]
      exact s7
    · rw [zc 211 (by decide) (by decide) (by decide), zc 212 (by decide) (by decide) (by decide), zM0, k0 25 (by decide) (by decide), show zu_ Z2 213 11 MK 223 = MK 10 from zM 10 (by decide), kj 10 (by decide) (by decide)]
      exact s8
end W11

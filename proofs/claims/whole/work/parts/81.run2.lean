section RV
variable {A : Nat → Nat} {GG : Nat → Nat → Nat} {Z : Nat → Nat → Int32} {XL : Nat → Int64} {cap i n f : Nat} {K : Nat → mm_Ce} {h : mm_S} {T : Nat → Int32} {S v : Nat → Nat}
theorem X_no9 : narrow (mm_fty 5 9) (.int (ki (-1))) = .int (ki (-1)) ∧ fits (mm_fty 5 9) (.int (ki (-1))) = true := fit_int _
/-- the class up to where the text is read -/
theorem run_1 (hW : WD_ A GG Z XL cap K h) (t : TX_ Z cap f v) (m : MK_ S h) : ∃ h3 Zc, WD_ A GG Zc XL cap K h3 ∧ CO_ v Zc (pr_ v f 15 0 []).2 ∧ (∀ a, (a < 189 ∨ 209 < a) → Zc a = Z a) ∧ Zc 209 9 = fI_ (pr_ v f 15 0 []).1 ∧ (∀ k, k ≠ 9 → Zc 209 k = Z 209 k) ∧ Zc 207 3 = nI 0 ∧
    F_X5_run S h (A 209) = if fI_ (pr_ v f 15 0 []).1 = ki (-1) then (F_X5_isAnyOrderRefused h3 (A 209)).bind fun v19 => if v19.1 = 0 then (fx_is v19.2 (A 209) 5).bind fun _ => (F_X5_remember v19.2 (A 209)).bind fun v23 => (fx_gR v23 (A 209) 5 0).bind fun v25 => (fx_gR v23 (A 209) 5 1).bind fun v27 => (fx_is v23 v25 3).bind fun _ => (F_X3_copyFrom v23 v25 v27).bind fun v30 => (fx_gR v30 (A 209) 5 8).bind fun v32 => (fx_gI v30 v32 1 3).bind fun v34 => some (.inl v34, v30) else some (.inr "java/lang/UnsupportedOperationException", v19.2) else some (.inr "java/lang/IllegalArgumentException", h3) := by
  obtain ⟨h1, Z1, e1, W1, c1, z1⟩ := read_F hW t m
  obtain ⟨h2, e2, W2⟩ := X_pI (k := 9) (v := fI_ (pr_ v f 15 0 []).1) W1 (by decide) (fun _ => rfl) (fit_int _)
  rw [zu_x (w := Z) (by decide)] at W2
  have t7 : w2_ Z1 (209 + 0) 9 (fI_ (pr_ v f 15 0 []).1) 207 3 = nI f := by rw [w2_ne (by decide), z1 207 (by omega)]; exact t.2.2.2.1
  obtain ⟨z0, e3, s0⟩ := tb_set (S := S) (z := fun j => w2_ Z1 (209 + 0) 9 (fI_ (pr_ v f 15 0 []).1) (207 + j)) (n := f) (WD_qv W2).1 (by have := t.2.2.1; omega) t.2.1 t7
  rw [(WD_qv W2).2] at e3
  have W3 := WD_qp (z := z0) W2
  have zq : ∀ a, ¬ (207 ≤ a ∧ a < 209) → a ≠ 209 → zu_ (w2_ Z1 (209 + 0) 9 (fI_ (pr_ v f 15 0 []).1)) 207 2 z0 a = Z1 a := fun a h1 h2 => by rw [zu_out (by omega), w2_ne (by omega)]
  have z9 : zu_ (w2_ Z1 (209 + 0) 9 (fI_ (pr_ v f 15 0 []).1)) 207 2 z0 209 9 = fI_ (pr_ v f 15 0 []).1 := by rw [zu_out (by omega)]; exact w2_at
  refine ⟨_, _, W3, ⟨by rw [zq 189 (by omega) (by decide)]; exact c1.1, fun i hi => ?_⟩, fun a ha => by rw [zq a (by omega) (by omega), z1 a (by omega)], z9, fun k hk => ?_, ?_, ?_⟩
  · have h15 : (pr_ v f 15 0 []).2.length ≤ 15 := by
      have key : ∀ n p acc, n + acc.length ≤ 15 → (pr_ v f n p acc).2.length ≤ 15 := by
        intro n
        induction n with
        | zero => intro p acc ha; unfold pr_; show acc.length ≤ 15; omega
        | succ n ih =>
          intro p acc ha
          unfold pr_
          split
          · split
            · split
              · exact ih _ _ (by rw [List.length_append, List.length_singleton]; omega)
              · rw [List.length_append, List.length_singleton]; omega
            · rw [List.length_append, List.length_singleton]; omega
          · show acc.length ≤ 15; omega
      exact key 15 0 [] (Nat.le_refl _)
    rw [zq 190 (by omega) (by decide), zq (192 + i) (by omega) (by omega)]
    exact c1.2 i hi
  · rw [zu_out (by omega)]
    exact (w2_n2 (by omega)).trans (by rw [z1 209 (by omega)])
  · rw [show zu_ (w2_ Z1 (209 + 0) 9 (fI_ (pr_ v f 15 0 []).1)) 207 2 z0 207 = z0 0 from zu_in (j := 0) (by decide)]
    exact s0.1
  · unfold F_X5_run
    rw [X_ord hW, Option.bind_some, O_is hW, Option.bind_some, e1, Option.bind_some, e2, Option.bind_some, X_ord W2, Option.bind_some, Z_txt W2, Option.bind_some, q_is W2, Option.bind_some, show F_J4_setLength_d00df S h2 (A 207) (ki 0) = _ from e3, Option.bind_some, X_flt W3, Option.bind_some, z9, WD_xis W3, Option.bind_some]
theorem pr_len : ∀ (n p : Nat) (acc : List (Nat × Nat)), n + acc.length ≤ 15 → (pr_ v f n p acc).2.length ≤ 15 := by
  intro n
  induction n with
  | zero => intro p acc ha; unfold pr_; show acc.length ≤ 15; omega
  | succ n ih =>
    intro p acc ha
    unfold pr_
    split
    · split
      · split
        · exact ih _ _ (by rw [List.length_append, List.length_singleton]; omega)
        · rw [List.length_append, List.length_singleton]; omega
      · rw [List.length_append, List.length_singleton]; omega
    · show acc.length ≤ 15; omega
theorem pr_b {v : Nat → Nat} {f : Nat} (t : TV_ v f) : ∀ (n p : Nat) (acc : List (Nat × Nat)), p ≤ f → ∀ x, (pr_ v f n p acc).1 = some x → x ≤ f := by
  intro n
  induction n with
  | zero => intro p acc hp x e; cases e; exact hp
  | succ n ih =>
    intro p acc hp x e
    have hk := kf_9 v p
    unfold pr_ at e
    split at e
    · split at e
      · split at e
        · exact ih _ _ (by omega) x e
        · cases e
          omega
      · cases e
    · cases e
      exact rn_f t _ p (fun c hc => (tx_ne0 _ hk c hc).1) hp
/-- the reference up to where the text is read -/
theorem run_2 {l : Nat → Nat} {M : Nat → Nat → Int32} {H : mm_S} (hl : ov_L 11 l H) (t : TV_ v f) (e19 : M 0 19 = nI f) (m7 : ∀ k, k < f → M 7 k = nI (v k)) : ∃ M1, FM_ (mBg_ M) M1 ∧ M1 0 19 = nI 0 ∧ MO_ v M1 (pr_ v f 15 0 []).2 ∧ F_X6_run (mv_ l M H) (l 0) = match (pr_ v f 15 0 []).1 with
    | none => (F_X6_run_L42 1000 (l 0) (nI 0) (mv_ l (w2_ M1 0 13 (ki (-1))) H)).bind fun o43 => match o43 with
      | .inl o43r => some o43r
      | .inr o43e => (fx_gI o43e (l 0) 6 22).bind fun v45 => (fx_is o43e (l 0) 6).bind fun _ => (F_X6_keeps o43e (l 0) v45).bind fun v48 => some (v48.1, v48.2)
    | some x => some (nI 0, mv_ l (m5_ (w2_ M1 0 13 (nI x)) (nI 1)) H) := by
  have b19 : mBg_ M 0 19 = nI f := (bg_0 (by decide)).trans e19
  have b7 : ∀ k, k < f → mBg_ M 7 k = nI (v k) := fun k hk => by rw [bg_r (by decide) (by decide)]; exact m7 k hk
  obtain ⟨M1, e1, f1, g19, mo, fl⟩ := m_reads hl t b19 b7
  refine ⟨M1, f1, g19, mo, ?_⟩
  unfold F_X6_run
  rw [mv_is hl, Option.bind_some, m_begins hl, Option.bind_some, mv_is hl, Option.bind_some, e1, Option.bind_some, mg_23 hl, Option.bind_some]
  cases hfl : (pr_ v f 15 0 []).1 with
  | none =>
    rw [hfl] at fl
    dsimp only at fl ⊢
    unfold F_X6_run_B24
    rw [fl, if_pos (show nI 0 = 0 from rfl), mp_13 hl, Option.bind_some, mg_23 hl, Option.bind_some, w2_n2 (by decide), fl, if_pos (show nI 0 = 0 from rfl)]
    rfl
  | some x =>
    rw [hfl] at fl
    dsimp only at fl ⊢
    unfold F_X6_run_B24
    rw [fl.1, if_neg (show ¬ nI 1 = 0 by decide), mg_21 hl, Option.bind_some, fl.2, mp_13 hl, Option.bind_some, mg_23 hl, Option.bind_some, w2_n2 (by decide), fl.1, if_neg (show ¬ nI 1 = 0 by decide), mv_is hl, Option.bind_some, kj_i1, m5_n hl, Option.bind_some]
theorem SM_of {GG' : Nat → Nat → Nat} {Zc M' : Nat → Nat → Int32} {XL' : Nat → Int64} (t0 : TR_ GG' Zc 0 (M' 1)) (hg : ∀ k, k < 11 → gs_ (GG' k)) (sv : Zc 209 3 = M' 0 14 ∧ (Zc 209 3 = nI 0 ∨ (Zc 209 3 = nI 1 ∧ TR_ GG' Zc 2 (M' 4)))) (rg : ∃ c p, c ≤ 8 ∧ p < 8 ∧ Zc 209 5 = nI c ∧ Zc 209 6 = nI p ∧ M' 0 6 = nI c ∧ ∀ i, i < c → TR_ GG' Zc (3 + (p + 8 - c + i) % 8) (fun k => M' 5 (110 * i + k))) (xl : XL' 10 = rz_ (M' 0 9) (M' 0 10) ∧ XL' 11 = rz_ (M' 0 11) (M' 0 12)) (fl : Zc 209 9 = M' 0 13) (tx : ∃ f, f ≤ 60 ∧ Zc 207 3 = nI f ∧ M' 0 19 = nI f ∧ f ≤ cap ∧ (cap = 16 ∨ cap = 34 ∨ cap = 70) ∧ cap ≤ 70 ∧ tx_ f (Zc 208) (M' 7)) (ln : ∃ q, q ≤ 16 ∧ Zc 211 3 = nI q ∧ M' 0 25 = nI q ∧ tx_ q (Zc 212) (M' 10)) : SM_ GG' (zu_ Zc 213 11 M') XL' cap := by
  have zM : ∀ j, j < 11 → zu_ Zc 213 11 M' (213 + j) = M' j := fun j hj => zm_in hj
  have zz : ∀ i, i < 213 → zu_ Zc 213 11 M' i = Zc i := fun i hi => zm_out hi
  have zM0 : zu_ Zc 213 11 M' 213 = M' 0 := zM 0 (by decide)
  have cg : ∀ {k T}, k < 11 → TR_ GG' Zc k T → TR_ GG' (zu_ Zc 213 11 M') k T := fun {k T} hk t => TR_cg t rfl (fun i hi => zz _ (by omega)) (fun _ _ => rfl)
  refine ⟨?_, hg, ?_, ?_, ?_, ?_, ?_, ?_⟩
  · rw [show zu_ Zc 213 11 M' 214 = M' 1 from zM 1 (by decide)]
    exact cg (by decide) t0
  · rw [zz 209 (by decide), zM0, show zu_ Zc 213 11 M' 217 = M' 4 from zM 4 (by decide)]
    exact ⟨sv.1, sv.2.elim .inl (fun q => .inr ⟨q.1, cg (by decide) q.2⟩)⟩
  · obtain ⟨c, p, h1, h2, h3, h4, h5, h6⟩ := rg
    rw [zz 209 (by decide), zM0, show zu_ Zc 213 11 M' 218 = M' 5 from zM 5 (by decide)]
    exact ⟨c, p, h1, h2, h3, h4, h5, fun i hi => cg (by have := Nat.mod_lt (p + 8 - c + i) (show 0 < 8 by decide); omega) (h6 i hi)⟩
  · rw [zM0]
    exact xl
  · rw [zz 209 (by decide), zM0]
    exact fl
  · rw [zz 207 (by decide), zz 208 (by decide), zM0, show zu_ Zc 213 11 M' 220 = M' 7 from zM 7 (by decide)]
    exact tx
  · rw [zz 211 (by decide), zz 212 (by decide), zM0, show zu_ Zc 213 11 M' 223 = M' 10 from zM 10 (by decide)]
    exact ln
theorem o_run (hs : ST_ A K h) (m : MK_ S h) : RS_ A K exIU_ (F_X5_run S h (A 209)) (fun h1 => F_X6_run h1 (A 213)) := by
  obtain ⟨GG, Z, XL, cap, hW, s⟩ := hs
  obtain ⟨s1, s2, s3, ⟨c, p, hc, hp, ec, ep, em6, s4⟩, s5, s6, ⟨f, hf, ef, ef2, hfc, hcap, hcap2, htx⟩, s8⟩ := id s
  obtain ⟨v, hv, hv0⟩ : ∃ v : Nat → Nat, (∀ k, k < f → Z 220 k = nI (v k) ∧ 32 ≤ v k ∧ v k ≤ 126) ∧ ∀ k, f ≤ k → v k = 0 := by
    refine ⟨fun k => if k < f then (Z 220 k).toNatClampNeg else 0, fun k hk => ?_, fun k hk => if_neg (by omega)⟩
    obtain ⟨-, w, w1, w2, e⟩ := htx k hk
    show Z 220 k = nI (if k < f then (Z 220 k).toNatClampNeg else 0) ∧ 32 ≤ (if k < f then (Z 220 k).toNatClampNeg else 0) ∧ (if k < f then (Z 220 k).toNatClampNeg else 0) ≤ 126
    rw [if_pos hk, e, nI_clamp (by omega)]
    exact ⟨rfl, w1, w2⟩
  have tx : TX_ Z cap f v := ⟨hf, hfc, hcap2, ef, fun k hk => ⟨(htx k hk).1.trans (hv k hk).1, (hv k hk).2⟩, hv0⟩
  have tv : TV_ v f := ⟨hf, fun k hk => (hv k hk).2, hv0⟩
  obtain ⟨h3, Zc, W3, co, zc, zc9, zck, zc7, ecl⟩ := run_1 hW tx m
  have hlen := pr_len (v := v) (f := f) 15 0 [] (Nat.le_refl _)
  have zM : ∀ j, Zc (213 + j) = Z (213 + j) := fun j => zc _ (by omega)
  cases hfl : (pr_ v f 15 0 []).1 with
  | some x =>
    rw [hfl] at ecl zc9
    have x60 := pr_b (v := v) (f := f) tv 15 0 [] (Nat.zero_le _) x hfl
    rw [if_neg (show ¬ fI_ (some x) = ki (-1) from fun y => by
      have y2 : nI x = ki (-1) := y
      have h1 := nI_pos' (n := x) (by omega)
      rw [y2] at h1
      exact absurd h1 (by decide))] at ecl
    refine ⟨_, h3, nI 0, nI 1, ecl, .inr ⟨0, _, rfl, rfl, rfl⟩, ⟨_, _, _, _, W3⟩, ?m9⟩
    case m9 =>
      intro K h3 HX
      have W3 := HX _ _ _ _ W3
      obtain ⟨hl, em⟩ := WD_m W3
      have emw : mw_ Zc = mw_ Z := funext zM
      rw [emw] at em
      obtain ⟨M1, f1, g19, mo, er⟩ := run_2 (M := mw_ Z) hl tv ef2 (fun k hk => (hv k hk).1)
      rw [hfl, em] at er
      dsimp only at er
      have W4 := WD_mp (M' := m5_ (w2_ M1 0 13 (nI x)) (nI 1)) W3
      have k0 : ∀ k, k ≠ 5 → k ≠ 13 → k ≠ 19 → k ≠ 20 → k ≠ 21 → k ≠ 22 → k ≠ 23 → m5_ (w2_ M1 0 13 (nI x)) (nI 1) 0 k = Z 213 k := fun k h5 h13 h19 h20 h21 h22 h23 => by rw [m5_0 h5, w2_n2 (by omega), f1.2 k h19 h20 h21 h22 h23, bg_0 h5]
      have kj : ∀ a, a ≠ 0 → a ≠ 2 → a ≠ 8 → a ≠ 9 → m5_ (w2_ M1 0 13 (nI x)) (nI 1) a = Z (213 + a) := fun a h0 h2 h8 h9 => by rw [m5_r h0, w2_ne h0, f1.1 a h0 h8 h9, bg_r h0 h2]
      refine ⟨_, er, ?_, _, _, _, _, W4, ?_⟩
      · rw [mg5 W4, show zu_ Zc 213 11 _ 213 = m5_ (w2_ M1 0 13 (nI x)) (nI 1) 0 from zm_in (j := 0) (by decide), w5_5]
      · refine SM_of ?_ s2 ?_ ⟨c, p, hc, hp, ?_, ?_, ?_, fun i hi => ?_⟩ ?_ ?_ ⟨0, by decide, zc7, ?_, Nat.zero_le _, hcap, hcap2, fun k hk => absurd hk (by omega)⟩ ?_
        · rw [kj 1 (by decide) (by decide) (by decide) (by decide)]
          exact TR_cg s1 rfl (fun i hi => zc _ (by omega)) (fun _ _ => rfl)
        · rw [zck 3 (by decide), k0 14 (by decide) (by decide) (by decide) (by decide) (by decide) (by decide) (by decide), kj 4 (by decide) (by decide) (by decide) (by decide)]
          exact ⟨s3.1, s3.2.elim .inl (fun q => .inr ⟨q.1, TR_cg q.2 rfl (fun i hi => zc _ (by omega)) (fun _ _ => rfl)⟩)⟩
        · rw [zck 5 (by decide), ec]
        · rw [zck 6 (by decide), ep]
        · rw [k0 6 (by decide) (by decide) (by decide) (by decide) (by decide) (by decide) (by decide), em6]
        · rw [kj 5 (by decide) (by decide) (by decide) (by decide)]
          have hm := Nat.mod_lt (p + 8 - c + i) (show 0 < 8 by decide)
          exact TR_cg (s4 i hi) rfl (fun j hj => zc _ (by omega)) (fun _ _ => rfl)
        · rw [k0 9 (by decide) (by decide) (by decide) (by decide) (by decide) (by decide) (by decide), k0 10 (by decide) (by decide) (by decide) (by decide) (by decide) (by decide) (by decide), k0 11 (by decide) (by decide) (by decide) (by decide) (by decide) (by decide) (by decide), k0 12 (by decide) (by decide) (by decide) (by decide) (by decide) (by decide) (by decide)]
          exact s5
        · rw [zc9, m5_0 (by decide), w2_at]
          rfl
        · rw [m5_0 (by decide), w2_n2 (by omega), g19]
        · rw [zc 211 (by decide), zc 212 (by decide), k0 25 (by decide) (by decide) (by decide) (by decide) (by decide) (by decide) (by decide), kj 10 (by decide) (by decide) (by decide) (by decide)]
          exact s8
  | none =>
    rw [hfl] at ecl zc9
    rw [if_pos (show fI_ none = ki (-1) from rfl)] at ecl
    have tc0 : TR_ GG Zc 0 (Z 214) := TR_cg s1 rfl (fun i hi => zc _ (by omega)) (fun _ _ => rfl)
    obtain ⟨h4, w', e4, W4, t4⟩ := x_copy W3 (show 1 < 11 by decide) (show 0 < 11 by decide) (by decide) (s2 1 (by decide)) tc0
    have z4 : ∀ a, ¬ (16 ≤ a ∧ a < 32) → zu_ Zc (16 * 1) 16 w' a = Zc a := fun a ha => zu_out (by omega)
    have co4 : CO_ v (zu_ Zc (16 * 1) 16 w') (pr_ v f 15 0 []).2 := ⟨by rw [z4 189 (by omega)]; exact co.1, fun i hi => by rw [z4 190 (by omega), z4 (192 + i) (by omega)]; exact co.2 i hi⟩
    obtain ⟨h5, GG', Z5, XL', W5, g5, gs5, z5, r⟩ := ord_L (pr_ v f 15 0 []).2.length 0 _ _ _ _ (pr_ v f 15 0 []).2 1000 rfl hlen (by omega) W4 t4 co4
    have z5' : ∀ a, (a < 16 ∨ (32 ≤ a ∧ a < 189) ∨ 209 < a) → Z5 a = Z a := fun a ha => by rw [z5 a (by omega), z4 a (by omega), zc a (by omega)]
    have z5c : ∀ a, ¬ (16 ≤ a ∧ a < 32) → Z5 a = Zc a := fun a ha => by rw [z5 a (by omega), z4 a (by omega)]
    have hgs : ∀ k, k < 11 → gs_ (GG' k) := fun k hk => by
      by_cases e : k = 1
      · rw [e]; exact gs5
      · rw [g5 k e]; exact s2 k hk
    have eref : F_X5_isAnyOrderRefused h3 (A 209) = (F_X5_isAnyOrderRefused_L13 1000 (A 209) (nI 0) h4).bind fun o34 => match o34 with
      | .inl o34r => some o34r
      | .inr o34e => some (ki 0, o34e) := by
      unfold F_X5_isAnyOrderRefused
      rw [X_draft W3, Option.bind_some, X_now W3, Option.bind_some, show fx_is h3 (A 16) 3 = some () from tis_ W3 (show 1 < 11 by decide), Option.bind_some, show F_X3_copyFrom h3 (A 16) (A 0) = some h4 from e4, Option.bind_some]
      rfl
    rw [eref] at ecl
    have emw5 : mw_ Z5 = mw_ Z := funext (fun j => z5' _ (by omega))
    rcases r with ⟨T2, rfl, t5, r3, r4⟩ | ⟨j, r, T2, hr, hj, x10, x11, r5, r6⟩
    · rw [r3, Option.bind_some] at ecl
      dsimp only at ecl
      rw [Option.bind_some, if_pos (show ki 0 = 0 from rfl), WD_xis W5, Option.bind_some] at ecl
      have t50 : TR_ GG' Z5 0 (Z 214) := TR_cg s1 (g5 0 (by decide)) (fun i hi => z5' _ (by omega)) (fun _ _ => rfl)
      have z9k : ∀ k, k ≠ 9 → Z5 209 k = Z 209 k := fun k hk => by rw [z5c 209 (by omega), zck k hk]
      obtain ⟨h6, Z6, e6, W6, t6, p6, c6, z6, z6x⟩ := x_remember W5 t50 hp hc (by rw [z9k 6 (by decide)]; exact ep) (by rw [z9k 5 (by decide)]; exact ec) (hgs (3 + p) (by omega))
      have t61 : TR_ GG' Z6 1 T2 := TR_cg t5 rfl (fun i hi => z6 _ (by omega) (by omega)) (fun _ _ => rfl)
      obtain ⟨h7, w7, e7, W7, t7⟩ := x_copy W6 (show 0 < 11 by decide) (show 1 < 11 by decide) (by decide) (hgs 0 (by decide)) t61
      have z7 : ∀ a, 16 ≤ a → zu_ Z6 (16 * 0) 16 w7 a = Z6 a := fun a ha => zu_out (by omega)
      rw [e6, Option.bind_some, X_now W6, Option.bind_some, X_draft W6, Option.bind_some, show fx_is h6 (A 0) 3 = some () from tis_ W6 (show 0 < 11 by decide), Option.bind_some, show F_X3_copyFrom h6 (A 0) (A 16) = some h7 from e7, Option.bind_some, X_ord W7, Option.bind_some, O_n W7, Option.bind_some, z7 189 (by decide), z6 189 (by omega) (by decide), z5c 189 (by omega), co.1] at ecl
      generalize hZ7 : zu_ Z6 (16 * 0) 16 w7 = Z7 at *
      have z7n : ∀ a, 32 ≤ a → ¬ (16 * (3 + p) ≤ a ∧ a < 16 * (3 + p) + 16) → (a < 189 ∨ 209 < a) → Z7 a = Z a := fun a h1 h2 h3 => by rw [z7 a (by omega), z6 a h2 (by omega), z5' a (by omega)]
      have z7c : ∀ a, 189 ≤ a → a ≠ 209 → Z7 a = Zc a := fun a h1 h2 => by rw [z7 a (by omega), z6 a (by omega) h2, z5c a (by omega)]
      refine ⟨_, h7, _, nI 0, ecl, .inl ⟨rfl, rfl⟩, ⟨_, _, _, _, W7⟩, fun K h7 HX => ?_⟩
      have W7 := HX _ _ _ _ W7
      obtain ⟨hl, em⟩ := WD_m W7
      have emw : mw_ Z7 = mw_ Z := funext (fun j => z7n _ (by omega) (by omega) (by omega))
      rw [emw] at em
      obtain ⟨M1, f1, g19, mo, er⟩ := run_2 (M := mw_ Z) hl tv ef2 (fun k hk => (hv k hk).1)
      rw [hfl, em] at er
      dsimp only at er
      have hM1 : ∀ a, a ≠ 0 → a ≠ 2 → a ≠ 8 → a ≠ 9 → M1 a = Z (213 + a) := fun a h0 h2 h8 h9 => by rw [f1.1 a h0 h8 h9, bg_r h0 h2]
      have hM2 : ∀ k, k < 110 → M1 2 k = Z 214 k := fun k hk => by rw [f1.1 2 (by decide) (by decide) (by decide), bg_2 hk]
      have hM0 : ∀ k, k ≠ 5 → k ≠ 19 → k ≠ 20 → k ≠ 21 → k ≠ 22 → k ≠ 23 → M1 0 k = Z 213 k := fun k h5 h19 h20 h21 h22 h23 => by rw [f1.2 k h19 h20 h21 h22 h23, bg_0 h5]
      have mo' : MO_ v (w2_ M1 0 13 (ki (-1))) (pr_ v f 15 0 []).2 := ⟨by rw [w2_n2 (by omega)]; exact mo.1, fun i hi => by rw [w2_ne (by decide), w2_ne (by decide)]; exact mo.2 i hi⟩
      have e42 := r4 (lm_ A) (w2_ M1 0 13 (ki (-1))) h7 1000 (by omega) hl (by rw [w2_ne (by decide), hM1 1 (by decide) (by decide) (by decide) (by decide)]) mo'
      have e06 : mT_ (w2_ M1 0 13 (ki (-1))) T2 0 6 = nI c := by rw [mT_n (by decide), w2_n2 (by omega), hM0 6 (by decide) (by decide) (by decide) (by decide) (by decide) (by decide)]; exact em6
      have e022 : mT_ (w2_ M1 0 13 (ki (-1))) T2 0 22 = nI (pr_ v f 15 0 []).2.length := by rw [mT_n (by decide)]; exact mo'.1
      rw [e42, Option.bind_some] at er
      dsimp only at er
      rw [mg_22 hl, Option.bind_some, e022, mv_is hl, Option.bind_some, m_keeps hl hc e06, Option.bind_some] at er
      dsimp only at er
      obtain ⟨kp6, kp0, kpr, kp5⟩ := kp_5 (M := mT_ (w2_ M1 0 13 (ki (-1))) T2) hc
      generalize hMK : mKp_ (mT_ (w2_ M1 0 13 (ki (-1))) T2) c = MK at *
      have W8 := WD_mp (M' := MK) W7
      have k0 : ∀ k, k ≠ 5 → k ≠ 6 → k ≠ 13 → k ≠ 19 → k ≠ 20 → k ≠ 21 → k ≠ 22 → k ≠ 23 → MK 0 k = Z 213 k := fun k h5 h6 h13 h19 h20 h21 h22 h23 => by rw [kp0 k h6, mT_n (by decide), w2_n2 (by omega), hM0 k h5 h19 h20 h21 h22 h23]
      have kj : ∀ a, a ≠ 0 → a ≠ 1 → a ≠ 2 → a ≠ 5 → a ≠ 8 → a ≠ 9 → MK a = Z (213 + a) := fun a h0 h1 h2 h5 h8 h9 => by rw [kpr a h0 h5, mT_n h1, w2_ne h0, hM1 a h0 h2 h8 h9]
      have k1 : MK 1 = T2 := by rw [kpr 1 (by decide) (by decide), mT_1]
      refine ⟨_, er, ?_, _, _, _, _, W8, ?_⟩
      · rw [mg5 W8, show zu_ Z7 213 11 MK 213 = MK 0 from zm_in (j := 0) (by decide), kp0 5 (by decide), mT_n (by decide), w2_n2 (by omega), f1.2 5 (by decide) (by decide) (by decide) (by decide) (by decide), bg_5]
      · refine SM_of ?_ hgs ?_ ⟨min 8 (c + 1), (p + 1) % 8, by omega, Nat.mod_lt _ (by decide), ?_, ?_, kp6, ?_⟩ ?_ ?_ ⟨0, by decide, ?_, ?_, Nat.zero_le _, hcap, hcap2, fun k hk => absurd hk (by omega)⟩ ?_
        · rw [k1]
          exact t7
        · rw [z7 209 (by decide), z6x 3 (by decide) (by decide), z9k 3 (by decide), k0 14 (by decide) (by decide) (by decide) (by decide) (by decide) (by decide) (by decide) (by decide), kj 4 (by decide) (by decide) (by decide) (by decide) (by decide) (by decide)]
          exact ⟨s3.1, s3.2.elim .inl (fun q => .inr ⟨q.1, TR_cg q.2 (g5 2 (by decide)) (fun i hi => z7n _ (by omega) (by omega) (by omega)) (fun _ _ => rfl)⟩)⟩
        · rw [z7 209 (by decide), c6]
        · rw [z7 209 (by decide), p6]
        · refine ring_ (P := fun s U => TR_ GG Z (3 + s) U) (Q := fun s U => TR_ GG' Z7 (3 + s) U) (C := Z 218) (T := Z 214) hp hc s4 (TR_cg t6 rfl (fun i hi => z7 _ (by omega)) (fun _ _ => rfl)) (fun s U hs hne t => TR_cg t (g5 _ (by omega)) (fun i hi => z7n _ (by omega) (by omega) (by omega)) (fun _ _ => rfl)) (fun s U U' e t => TR_cg t rfl (fun _ _ => rfl) e) (fun i hi k hk => ?_)
          rw [kp5 i hi k hk, mT_n (by decide), mT_n (by decide), w2_ne (by decide), w2_ne (by decide), hM2 k hk, hM1 5 (by decide) (by decide) (by decide) (by decide)]
        · rw [k0 9 (by decide) (by decide) (by decide) (by decide) (by decide) (by decide) (by decide) (by decide), k0 10 (by decide) (by decide) (by decide) (by decide) (by decide) (by decide) (by decide) (by decide), k0 11 (by decide) (by decide) (by decide) (by decide) (by decide) (by decide) (by decide) (by decide), k0 12 (by decide) (by decide) (by decide) (by decide) (by decide) (by decide) (by decide) (by decide)]
          exact s5
        · rw [z7 209 (by decide), z6x 9 (by decide) (by decide), z5c 209 (by omega), zc9, kp0 13 (by decide), mT_n (by decide), w2_at]
          rfl
        · rw [z7c 207 (by decide) (by decide), zc7]
        · rw [kp0 19 (by decide), mT_n (by decide), w2_n2 (by omega), g19]
        · rw [z7n 211 (by decide) (by omega) (by omega), z7n 212 (by decide) (by omega) (by omega), k0 25 (by decide) (by decide) (by decide) (by decide) (by decide) (by decide) (by decide) (by decide), kj 10 (by decide) (by decide) (by decide) (by decide) (by decide) (by decide)]
          exact s8
    · rw [r5, Option.bind_some] at ecl
      dsimp only at ecl
      rw [Option.bind_some, if_neg (show ¬ ki 1 = 0 by decide)] at ecl
      refine ⟨_, h5, nI 0, nI 2, ecl, .inr ⟨1, _, rfl, rfl, rfl⟩, ⟨_, _, _, _, W5⟩, ?m8⟩
      case m8 =>
        intro K h5 HX
        have W5 := HX _ _ _ _ W5
        obtain ⟨hl, em⟩ := WD_m W5
        rw [emw5] at em
        obtain ⟨M1, f1, g19, mo, er⟩ := run_2 (M := mw_ Z) hl tv ef2 (fun k hk => (hv k hk).1)
        rw [hfl, em] at er
        dsimp only at er
        have hM1 : ∀ a, a ≠ 0 → a ≠ 2 → a ≠ 8 → a ≠ 9 → M1 a = Z (213 + a) := fun a h0 h2 h8 h9 => by rw [f1.1 a h0 h8 h9, bg_r h0 h2]
        have hM2 : ∀ k, k < 110 → M1 2 k = Z 214 k := fun k hk => by rw [f1.1 2 (by decide) (by decide) (by decide), bg_2 hk]
        have hM0 : ∀ k, k ≠ 5 → k ≠ 19 → k ≠ 20 → k ≠ 21 → k ≠ 22 → k ≠ 23 → M1 0 k = Z 213 k := fun k h5 h19 h20 h21 h22 h23 => by rw [f1.2 k h19 h20 h21 h22 h23, bg_0 h5]
        have mo' : MO_ v (w2_ M1 0 13 (ki (-1))) (pr_ v f 15 0 []).2 := ⟨by rw [w2_n2 (by omega)]; exact mo.1, fun i hi => by rw [w2_ne (by decide), w2_ne (by decide)]; exact mo.2 i hi⟩
        have e42 := r6 (lm_ A) (w2_ M1 0 13 (ki (-1))) h5 1000 (by omega) hl (by rw [w2_ne (by decide), hM1 1 (by decide) (by decide) (by decide) (by decide)]) mo'
        rw [e42, Option.bind_some] at er
        dsimp only at er
        have mwn : ∀ a, a ≠ 0 → mW_ (mT_ (w2_ M1 0 13 (ki (-1))) T2) r a = mT_ (w2_ M1 0 13 (ki (-1))) T2 a := fun a ha => by unfold mW_; rw [w2_ne ha, w2_ne ha]
        have mw0 : ∀ k, k ≠ 7 → k ≠ 8 → mW_ (mT_ (w2_ M1 0 13 (ki (-1))) T2) r 0 k = mT_ (w2_ M1 0 13 (ki (-1))) T2 0 k := fun k h7 h8 => by unfold mW_; rw [w2_n2 (by omega), w2_n2 (by omega)]
        generalize hMF : w2_ (w2_ (w2_ (w2_ (w2_ (mC_ (mW_ (mT_ (w2_ M1 0 13 (ki (-1))) T2) r) 2 0 1 0 110) 0 11 r.1) 0 12 r.2) 0 9 (nI 16)) 0 10 (nI j)) 0 5 (nI 2) = MF at *
        have W6 := WD_mp (M' := MF) W5
        have k5 : MF 0 5 = nI 2 := by rw [← hMF, w2_at]
        have k10 : MF 0 10 = nI j := by rw [← hMF, w2_n2 (by omega), w2_at]
        have k9 : MF 0 9 = nI 16 := by rw [← hMF, w2_n2 (by omega), w2_n2 (by omega), w2_at]
        have k12 : MF 0 12 = r.2 := by rw [← hMF, w2_n2 (by omega), w2_n2 (by omega), w2_n2 (by omega), w2_at]
        have k11 : MF 0 11 = r.1 := by rw [← hMF, w2_n2 (by omega), w2_n2 (by omega), w2_n2 (by omega), w2_n2 (by omega), w2_at]
        have kf0 : ∀ k, k ≠ 5 → k ≠ 7 → k ≠ 8 → k ≠ 9 → k ≠ 10 → k ≠ 11 → k ≠ 12 → MF 0 k = w2_ M1 0 13 (ki (-1)) 0 k := fun k h5 h7 h8 h9 h10 h11 h12 => by rw [← hMF, w2_n2 (by omega), w2_n2 (by omega), w2_n2 (by omega), w2_n2 (by omega), w2_n2 (by omega), mC_v, if_neg (by omega), mw0 k h7 h8, mT_n (by decide)]
        have kj : ∀ a, a ≠ 0 → a ≠ 1 → a ≠ 2 → a ≠ 8 → a ≠ 9 → MF a = Z (213 + a) := fun a h0 h1 h2 h8 h9 => by
          rw [← hMF, w2_ne h0, w2_ne h0, w2_ne h0, w2_ne h0, w2_ne h0]
          funext k
          rw [mC_v, if_neg (by omega), mwn a h0, mT_n h1, w2_ne h0, hM1 a h0 h2 h8 h9]
        have k1 : ∀ k, k < 110 → MF 1 k = Z 214 k := fun k hk => by
          rw [← hMF, w2_ne (by decide), w2_ne (by decide), w2_ne (by decide), w2_ne (by decide), w2_ne (by decide), mC_v, if_pos (by omega), mwn 2 (by decide), mT_n (by decide), w2_ne (by decide), Nat.zero_add, Nat.sub_zero, hM2 k hk]
        have kz : ∀ k, k ≠ 5 → k ≠ 7 → k ≠ 8 → k ≠ 9 → k ≠ 10 → k ≠ 11 → k ≠ 12 → k ≠ 13 → k ≠ 19 → k ≠ 20 → k ≠ 21 → k ≠ 22 → k ≠ 23 → MF 0 k = Z 213 k := fun k h5 h7 h8 h9 h10 h11 h12 h13 h19 h20 h21 h22 h23 => by rw [kf0 k h5 h7 h8 h9 h10 h11 h12, w2_n2 (by omega), hM0 k h5 h19 h20 h21 h22 h23]
        refine ⟨_, er, ?_, _, _, _, _, W6, ?_⟩
        · rw [mg5 W6, show zu_ Z5 213 11 MF 213 = MF 0 from zm_in (j := 0) (by decide), k5]
        · refine SM_of ?_ hgs ?_ ⟨c, p, hc, hp, ?_, ?_, ?_, fun i hi => ?_⟩ ⟨?_, ?_⟩ ?_ ⟨0, by decide, ?_, ?_, Nat.zero_le _, hcap, hcap2, fun k hk => absurd hk (by omega)⟩ ?_
          · exact TR_cg s1 (g5 0 (by decide)) (fun i hi => z5' _ (by omega)) k1
          · rw [z5c 209 (by omega), zck 3 (by decide), kz 14 (by decide) (by decide) (by decide) (by decide) (by decide) (by decide) (by decide) (by decide) (by decide) (by decide) (by decide) (by decide) (by decide), kj 4 (by decide) (by decide) (by decide) (by decide) (by decide)]
            exact ⟨s3.1, s3.2.elim .inl (fun q => .inr ⟨q.1, TR_cg q.2 (g5 2 (by decide)) (fun i hi => z5' _ (by omega)) (fun _ _ => rfl)⟩)⟩
          · rw [z5c 209 (by omega), zck 5 (by decide), ec]
          · rw [z5c 209 (by omega), zck 6 (by decide), ep]
          · rw [kz 6 (by decide) (by decide) (by decide) (by decide) (by decide) (by decide) (by decide) (by decide) (by decide) (by decide) (by decide) (by decide) (by decide), em6]
          · rw [kj 5 (by decide) (by decide) (by decide) (by decide) (by decide)]
            have hm := Nat.mod_lt (p + 8 - c + i) (show 0 < 8 by decide)
            exact TR_cg (s4 i hi) (g5 _ (by omega)) (fun j hj => z5' _ (by omega)) (fun _ _ => rfl)
          · rw [x10, k9, k10]
            unfold rz_
            rw [if_neg (by decide)]
          · rw [x11, k11, k12]
            unfold rz_
            rw [if_neg hr]
          · rw [z5c 209 (by omega), zc9, kf0 13 (by decide) (by decide) (by decide) (by decide) (by decide) (by decide) (by decide), w2_at]
            rfl
          · rw [z5c 207 (by omega), zc7]
          · rw [kf0 19 (by decide) (by decide) (by decide) (by decide) (by decide) (by decide) (by decide), w2_n2 (by omega), g19]
          · rw [z5' 211 (by omega), z5' 212 (by omega), kz 25 (by decide) (by decide) (by decide) (by decide) (by decide) (by decide) (by decide) (by decide) (by decide) (by decide) (by decide) (by decide) (by decide), kj 10 (by decide) (by decide) (by decide) (by decide) (by decide)]
            exact s8
end RV

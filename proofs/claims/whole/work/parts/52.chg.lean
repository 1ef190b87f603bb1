/-! the changes: class and reference in step -/
def chF_ (why : mm_S → Nat → Option Int64) (op : mm_S → Nat → Option (Int32 × mm_S)) (h : mm_S) (x0 : Nat) : Option ((Int32 ⊕ String) × mm_S) :=
  (fx_gR h x0 5 0).bind fun v1 =>
  (fx_is h v1 3).bind fun _ =>
  (why h v1).bind fun v4 =>
  (fx_is h x0 5).bind fun _ =>
  (F_X5_isRefused h x0 v4).bind fun v7 =>
  if v7.1 = 0 then
    (fx_is v7.2 x0 5).bind fun _ =>
    (F_X5_remember v7.2 x0).bind fun v11 =>
    (fx_gR v11 x0 5 0).bind fun v13 =>
    (fx_is v11 v13 3).bind fun _ =>
    (op v11 v13).bind fun v16 =>
    some (.inl v16.1, v16.2)
  else
    some (.inr "java/lang/UnsupportedOperationException", v7.2)
def chM_ (ref : mm_S → Nat → Option (Int32 × mm_S)) (op : mm_S → Nat → Option (Int32 × mm_S)) (h : mm_S) (x0 : Nat) : Option (Int32 × mm_S) :=
  (fx_is h x0 6).bind fun _ =>
  (F_X6_begins h x0).bind fun v2 =>
  (fx_is v2 x0 6).bind fun _ =>
  (ref v2 x0).bind fun v5 =>
  if v5.1 = 0 then
    (fx_is v5.2 x0 6).bind fun _ =>
    (op v5.2 x0).bind fun v9 =>
    (fx_is v9.2 x0 6).bind fun _ =>
    (F_X6_keeps v9.2 x0 v9.1).bind fun v12 =>
    some (v12.1, v12.2)
  else
    (fx_is v5.2 x0 6).bind fun _ =>
    (F_X6_refused v5.2 x0).bind fun v15 =>
    some (v15.1, v15.2)
def ST_ (A : Nat → Nat) (K : Nat → mm_Ce) (h : mm_S) : Prop := ∃ GG Z XL cap, WD_ A GG Z XL cap K h ∧ SM_ GG Z XL cap
def OK_ (ex : List String) (o : Int32 ⊕ String) (v k : Int32) : Prop := (k = nI 0 ∧ o = .inl v) ∨ ∃ i E, ex[i]? = some E ∧ o = .inr E ∧ k = nI (i + 1)
/-- whatever lies at the places that belong to neither, the reference goes on so -/
abbrev MS_ (A : Nat → Nat) (K : Nat → mm_Ce) (h1 : mm_S) (m : mm_S → Option (Int32 × mm_S)) (v k : Int32) : Prop := (∃ (GG : Nat → Nat → Nat) (Z : Nat → Nat → Int32) (XL : Nat → Int64) (cap : Nat), WD_ A GG Z XL cap K h1) ∧ ∀ (K2 : Nat → mm_Ce) (H : mm_S), (∀ (GG : Nat → Nat → Nat) (Z : Nat → Nat → Int32) (XL : Nat → Int64) (cap : Nat), WD_ A GG Z XL cap K h1 → WD_ A GG Z XL cap K2 H) → ∃ h2, m H = some (v, h2) ∧ fx_gI h2 (A 213) 6 5 = some k ∧ ST_ A K2 h2
section CH
variable {A : Nat → Nat} {GG GG' : Nat → Nat → Nat} {Z Z' : Nat → Nat → Int32} {XL XL' : Nat → Int64} {cap : Nat} {K : Nat → mm_Ce} {h : mm_S} {k i : Nat}
theorem SM_cg2 (s : SM_ GG Z XL cap) (hG : ∀ k, k ≠ 1 → GG' k = GG k) (hG1 : gs_ (GG' 1)) (hZ : ∀ i, (i < 16 ∨ (32 ≤ i ∧ i < 176) ∨ (207 ≤ i ∧ i < 213)) → Z' i = Z i) (h1 : ∀ i, i < 110 → Z' 214 i = Z 214 i) (h4 : Z' 217 = Z 217) (h5 : Z' 218 = Z 218) (h7 : Z' 220 = Z 220) (h10 : Z' 223 = Z 223) (h0 : ∀ k, (k = 6 ∨ k = 13 ∨ k = 14 ∨ k = 19 ∨ k = 25) → Z' 213 k = Z 213 k) (h9 : XL' 10 = rz_ (Z' 213 9) (Z' 213 10) ∧ XL' 11 = rz_ (Z' 213 11) (Z' 213 12)) : SM_ GG' Z' XL' cap := by
  obtain ⟨s1, s2, s3, ⟨c, p, s4⟩, s5, s6, s7, s8⟩ := s
  refine ⟨TR_cg s1 (hG 0 (by decide)) (fun i hi => hZ _ (by omega)) h1, fun k hk => ?_, ?_, ⟨c, p, s4.1, s4.2.1, ?_, ?_, ?_, fun i hi => ?_⟩, h9, ?_, ?_, ?_⟩
  · by_cases e : k = 1
    · rw [e]; exact hG1
    · rw [hG k e]; exact s2 k hk
  · rw [hZ 209 (by decide), h0 14 (by decide), h4]
    refine ⟨s3.1, s3.2.elim .inl (fun q => .inr ⟨q.1, TR_cg q.2 (hG 2 (by decide)) (fun i hi => hZ _ (by omega)) (fun _ _ => rfl)⟩)⟩
  · rw [hZ 209 (by decide)]; exact s4.2.2.1
  · rw [hZ 209 (by decide)]; exact s4.2.2.2.1
  · rw [h0 6 (by decide)]; exact s4.2.2.2.2.1
  · rw [h5]
    have hm := Nat.mod_lt (p + 8 - c + i) (show 0 < 8 by decide)
    exact TR_cg (s4.2.2.2.2.2 i hi) (hG _ (by omega)) (fun i hi => hZ _ (by omega)) (fun _ _ => rfl)
  · rw [hZ 209 (by decide), h0 13 (by decide)]
    exact s6
  · rw [hZ 207 (by decide), hZ 208 (by decide), h0 19 (by decide), h7]
    exact s7
  · rw [hZ 211 (by decide), hZ 212 (by decide), h0 25 (by decide), h10]
    exact s8
theorem zm_in {M : Nat → Nat → Int32} {j : Nat} (h : j < 11) : zu_ Z 213 11 M (213 + j) = M j := zu_in h
theorem zm_out {M : Nat → Nat → Int32} {i : Nat} (h : i < 213) : zu_ Z 213 11 M i = Z i := zu_out (by omega)
theorem bg_0 {M : Nat → Nat → Int32} {k : Nat} (hk : k ≠ 5) : mBg_ M 0 k = M 0 k := by
  unfold mBg_
  rw [mC_v, if_neg (by omega), w2_n2 (by omega)]
theorem bg_r {M : Nat → Nat → Int32} {j : Nat} (h0 : j ≠ 0) (h2 : j ≠ 2) : mBg_ M j = M j := by
  funext k
  unfold mBg_
  rw [mC_v, if_neg (by omega), w2_n2 (by omega)]
theorem bg_2 {M : Nat → Nat → Int32} {k : Nat} (hk : k < 110) : mBg_ M 2 k = M 1 k := by
  unfold mBg_
  rw [mC_v, if_pos (by omega), w2_n2 (by omega), Nat.zero_add, Nat.sub_zero]
theorem bg_5 {M : Nat → Nat → Int32} : mBg_ M 0 5 = nI 0 := by
  unfold mBg_
  rw [mC_v, if_neg (by omega), w2_at]
theorem mg5 (hW : WD_ A GG Z XL cap K h) : fx_gI h (A 213) 6 5 = some (Z 213 5) := by
  obtain ⟨hl, e⟩ := WD_m hW
  have e2 := mg_5 (M := mw_ Z) hl
  rw [e] at e2
  exact e2
theorem TR_n {T : Nat → Int32} (t : TR_ GG Z k T) : ∃ n, n ≤ 10 ∧ T 0 = nI n ∧ R_ (GG k) (wt_ Z k) T n ∧ I_ T n := by
  obtain ⟨n, R, I⟩ := t
  exact ⟨n, R_n R, R_T0 R, R, I⟩
/-- a change is refused by both -/
theorem chg_no {why : mm_S → Nat → Option Int64} {op : mm_S → Nat → Option (Int32 × mm_S)} {ref mop : mm_S → Nat → Option (Int32 × mm_S)} {r : Int32 × Int32} (hW : WD_ A GG Z XL cap K h) (s : SM_ GG Z XL cap) (hr : r.1 ≠ nI 0) (hwhy : ∀ (l g : Nat → Nat) (w : Nat → Nat → Int32) (h : mm_S) (n : Nat), ov_L 16 l h → R_ g w (Z 214) n → I_ (Z 214) n → why (tv_ l g w h) (l 0) = some (rL_ (some r))) (href : ∀ (l : Nat → Nat) (M : Nat → Nat → Int32) (h : mm_S) (n : Nat), ov_L 11 l h → M 1 = Z 214 → Z 214 0 = nI n → n ≤ 10 → I_ (Z 214) n → ref (mv_ l M h) (l 0) = some (mR_ l M h (some r))) : ∃ h1 v, chF_ why op h (A 209) = some (.inr "java/lang/UnsupportedOperationException", h1) ∧ MS_ A K h1 (fun h1 => chM_ ref mop h1 (A 213)) v (nI 1) := by
  obtain ⟨n, hn, hT, R, I⟩ := TR_n s.1
  have ew := hwhy (lt_ A 0) (GG 0) (wt_ Z 0) h n (WD_t hW (by decide)).1 R I
  rw [(WD_t hW (by decide)).2] at ew
  have eis := tv_is (g := GG 0) (w := wt_ Z 0) (WD_t hW (show 0 < 11 by decide)).1
  rw [(WD_t hW (by decide)).2] at eis
  obtain ⟨h0, e1, W0⟩ := x_refused hW r hr
  refine ⟨h0, nI 0, ?_, ⟨_, _, _, _, W0⟩, fun K2 h1 HX => ?_⟩
  · unfold chF_
    rw [X_now hW, Option.bind_some, show fx_is h (A 0) 3 = some () from eis, Option.bind_some, show why h (A 0) = _ from ew, Option.bind_some, WD_xis hW, Option.bind_some, e1, Option.bind_some]
    exact if_neg (show ¬ (nI 1 : Int32) = 0 by decide)
  have W1 := HX _ _ _ _ W0
  obtain ⟨hl, em⟩ := WD_m W1
  have eb := m_begins (M := mw_ Z) hl
  rw [em] at eb
  have emis := mv_is (M := mw_ Z) hl
  rw [em] at emis
  have er := href (lm_ A) (mBg_ (mw_ Z)) h1 n hl (bg_r (by decide) (by decide)) hT hn I
  have ef := m_refused (M := mW_ (mBg_ (mw_ Z)) r) hl
  have W2 := WD_mp (M' := mF_ (mW_ (mBg_ (mw_ Z)) r)) W1
  have r7 : mW_ (mBg_ (mw_ Z)) r 0 7 = r.1 := by
    unfold mW_
    rw [w2_n2 (by omega), w2_at]
  have r8 : mW_ (mBg_ (mw_ Z)) r 0 8 = r.2 := by
    unfold mW_
    rw [w2_at]
  have f0 : ∀ k, k ≠ 5 → k ≠ 7 → k ≠ 8 → k ≠ 9 → k ≠ 10 → k ≠ 11 → mF_ (mW_ (mBg_ (mw_ Z)) r) 0 k = Z 213 k := fun k h5 h7 h8 h9 h10 h11 => by
    unfold mF_ mW_
    rw [w2_n2 (by omega), w2_n2 (by omega), w2_n2 (by omega), w2_n2 (by omega), w2_n2 (by omega), w2_n2 (by omega), bg_0 h5]
  have fr : ∀ j, j ≠ 0 → j ≠ 2 → mF_ (mW_ (mBg_ (mw_ Z)) r) j = Z (213 + j) := fun j h0 h2 => by
    unfold mF_ mW_
    rw [w2_ne h0, w2_ne h0, w2_ne h0, w2_ne h0, w2_ne h0, w2_ne h0, bg_r h0 h2]
  have f9 : mF_ (mW_ (mBg_ (mw_ Z)) r) 0 9 = r.1 := by
    unfold mF_
    rw [w2_n2 (by omega), w2_n2 (by omega), w2_n2 (by omega), w2_at, r7]
  have f10 : mF_ (mW_ (mBg_ (mw_ Z)) r) 0 10 = r.2 := by
    unfold mF_
    rw [w2_n2 (by omega), w2_n2 (by omega), w2_at, r8]
  have f11 : mF_ (mW_ (mBg_ (mw_ Z)) r) 0 11 = nI 0 := by
    unfold mF_
    rw [w2_n2 (by omega), w2_at]
  have f5 : mF_ (mW_ (mBg_ (mw_ Z)) r) 0 5 = nI 1 := by
    unfold mF_
    rw [w2_at]
  refine ⟨_, ?_, ?_, _, _, _, _, W2, ?_⟩
  · show chM_ ref mop h1 (A 213) = _
    unfold chM_
    rw [show fx_is h1 (A 213) 6 = some () from emis, Option.bind_some, show F_X6_begins h1 (A 213) = _ from eb, Option.bind_some, show fx_is (mv_ (lm_ A) (mBg_ (mw_ Z)) h1) (A 213) 6 = some () from mv_is hl, Option.bind_some, show ref (mv_ (lm_ A) (mBg_ (mw_ Z)) h1) (A 213) = _ from er, Option.bind_some]
    unfold mR_
    dsimp only
    rw [if_neg (by decide), show fx_is (mv_ (lm_ A) (mW_ (mBg_ (mw_ Z)) r) h1) (A 213) 6 = some () from mv_is hl, Option.bind_some, show F_X6_refused (mv_ (lm_ A) (mW_ (mBg_ (mw_ Z)) r) h1) (A 213) = _ from ef, Option.bind_some]
  · rw [mg5 W2, show zu_ Z 213 11 (mF_ (mW_ (mBg_ (mw_ Z)) r)) 213 = mF_ (mW_ (mBg_ (mw_ Z)) r) 0 from zm_in (j := 0) (by decide), f5]
  · have z0 : zu_ Z 213 11 (mF_ (mW_ (mBg_ (mw_ Z)) r)) 213 = mF_ (mW_ (mBg_ (mw_ Z)) r) 0 := zm_in (j := 0) (by decide)
    refine SM_cg2 s (fun _ _ => rfl) (s.2.1 1 (by decide)) (fun i hi => zm_out (by omega)) (fun i _ => ?_) ?_ ?_ ?_ ?_ (fun k hk => ?_) ?_
    · rw [show zu_ Z 213 11 (mF_ (mW_ (mBg_ (mw_ Z)) r)) 214 = _ from zm_in (j := 1) (by decide), fr 1 (by decide) (by decide)]
    · rw [show zu_ Z 213 11 (mF_ (mW_ (mBg_ (mw_ Z)) r)) 217 = _ from zm_in (j := 4) (by decide), fr 4 (by decide) (by decide)]
    · rw [show zu_ Z 213 11 (mF_ (mW_ (mBg_ (mw_ Z)) r)) 218 = _ from zm_in (j := 5) (by decide), fr 5 (by decide) (by decide)]
    · rw [show zu_ Z 213 11 (mF_ (mW_ (mBg_ (mw_ Z)) r)) 220 = _ from zm_in (j := 7) (by decide), fr 7 (by decide) (by decide)]
    · rw [show zu_ Z 213 11 (mF_ (mW_ (mBg_ (mw_ Z)) r)) 223 = _ from zm_in (j := 10) (by decide), fr 10 (by decide) (by decide)]
    · rw [z0, f0 k (by omega) (by omega) (by omega) (by omega) (by omega) (by omega)]
    · rw [z0, f9, f10, f11]
      constructor
      · unfold rz_
        rw [if_neg hr]
        rfl
      · unfold rz_
        rw [if_pos rfl]
        rfl
/-- what the reference keeps -/
theorem kp_5 {M : Nat → Nat → Int32} {c : Nat} (hc : c ≤ 8) : mKp_ M c 0 6 = nI (min 8 (c + 1)) ∧ (∀ k, k ≠ 6 → mKp_ M c 0 k = M 0 k) ∧ (∀ j, j ≠ 0 → j ≠ 5 → mKp_ M c j = M j) ∧ ∀ i, i < min 8 (c + 1) → ∀ k, k < 110 → mKp_ M c 5 (110 * i + k) = if i = min 7 c then M 2 k else if c = 8 then M 5 (110 * (i + 1) + k) else M 5 (110 * i + k) := by
  unfold mKp_
  by_cases h8 : c = 8
  · subst h8
    rw [if_pos rfl]
    unfold mKB_
    refine ⟨by rw [w2_at]; rfl, fun k hk => ?_, fun j h0 h5 => ?_, fun i hi k hk => ?_⟩
    · rw [w2_n2 (by omega), mC_v, if_neg (by omega), w2_n2 (by omega), mSh_v, if_neg (by omega)]
    · funext k
      rw [w2_n2 (by omega), mC_v, if_neg (by omega), w2_n2 (by omega), mSh_v, if_neg (by omega)]
    · rw [w2_n2 (by omega), mC_v]
      by_cases e : i = min 7 8
      · rw [if_pos e, if_pos (by omega), w2_n2 (by omega), mSh_v, if_neg (by omega), show 0 + (110 * i + k - 110 * 7) = k from by omega]
      · rw [if_neg e, if_pos rfl, if_neg (by omega), w2_n2 (by omega), mSh_v, if_pos (by omega), show 110 * i + k + 110 = 110 * (i + 1) + k from by omega]
  · rw [if_neg h8]
    unfold mKB_
    refine ⟨by rw [w2_at, Nat.min_eq_right (by omega)], fun k hk => ?_, fun j h0 h5 => ?_, fun i hi k hk => ?_⟩
    · rw [w2_n2 (by omega), mC_v, if_neg (by omega)]
    · funext k
      rw [w2_n2 (by omega), mC_v, if_neg (by omega)]
    · rw [w2_n2 (by omega), mC_v]
      by_cases e : i = min 7 c
      · rw [if_pos e, if_pos (by omega), show 0 + (110 * i + k - 110 * c) = k from by omega]
      · rw [if_neg e, if_neg h8, if_neg (by omega)]
/-- the ring goes on by one -/
theorem ring_ {p c : Nat} (hp : p < 8) (hc : c ≤ 8) {P : Nat → (Nat → Int32) → Prop} {Q : Nat → (Nat → Int32) → Prop} {C C' : Nat → Int32} {T : Nat → Int32} (old : ∀ i, i < c → P ((p + 8 - c + i) % 8) (fun k => C (110 * i + k))) (new : Q p T) (keep : ∀ s U, s < 8 → s ≠ p → P s U → Q s U) (cg : ∀ s U U', (∀ k, k < 110 → U' k = U k) → Q s U → Q s U') (hC : ∀ i, i < min 8 (c + 1) → ∀ k, k < 110 → C' (110 * i + k) = if i = min 7 c then T k else if c = 8 then C (110 * (i + 1) + k) else C (110 * i + k)) : ∀ i, i < min 8 (c + 1) → Q (((p + 1) % 8 + 8 - min 8 (c + 1) + i) % 8) (fun k => C' (110 * i + k)) := by
  intro i hi
  by_cases e : i = min 7 c
  · have es : ((p + 1) % 8 + 8 - min 8 (c + 1) + i) % 8 = p := by omega
    rw [es]
    exact cg p T _ (fun k hk => by rw [hC i hi k hk, if_pos e]) new
  · by_cases h8 : c = 8
    · have es : ((p + 1) % 8 + 8 - min 8 (c + 1) + i) % 8 = (p + 8 - c + (i + 1)) % 8 := by omega
      rw [es]
      refine cg _ _ _ (fun k hk => by rw [hC i hi k hk, if_neg e, if_pos h8]) (keep _ _ (Nat.mod_lt _ (by decide)) (by omega) (old (i + 1) (by omega)))
    · have es : ((p + 1) % 8 + 8 - min 8 (c + 1) + i) % 8 = (p + 8 - c + i) % 8 := by omega
      rw [es]
      exact cg _ _ _ (fun k hk => by rw [hC i hi k hk, if_neg e, if_neg h8]) (keep _ _ (Nat.mod_lt _ (by decide)) (by omega) (old i (by omega)))
theorem chg_yes {why : mm_S → Nat → Option Int64} {op : mm_S → Nat → Option (Int32 × mm_S)} {ref mop : mm_S → Nat → Option (Int32 × mm_S)} {v : Int32} {T2 : Nat → Int32} (hW : WD_ A GG Z XL cap K h) (s : SM_ GG Z XL cap) (hwhy : ∀ (l g : Nat → Nat) (w : Nat → Nat → Int32) (h : mm_S) (n : Nat), ov_L 16 l h → R_ g w (Z 214) n → I_ (Z 214) n → why (tv_ l g w h) (l 0) = some (rL_ none)) (hop : ∀ (l g : Nat → Nat) (w : Nat → Nat → Int32) (h : mm_S) (n : Nat), ov_L 16 l h → R_ g w (Z 214) n → I_ (Z 214) n → ∃ g' w' n', op (tv_ l g w h) (l 0) = some (v, tv_ l g' w' h) ∧ R_ g' w' T2 n' ∧ I_ T2 n') (href : ∀ (l : Nat → Nat) (M : Nat → Nat → Int32) (h : mm_S) (n : Nat), ov_L 11 l h → M 1 = Z 214 → Z 214 0 = nI n → n ≤ 10 → I_ (Z 214) n → ref (mv_ l M h) (l 0) = some (mR_ l M h none)) (hmop : ∀ (l : Nat → Nat) (M : Nat → Nat → Int32) (h : mm_S) (n : Nat), ov_L 11 l h → M 1 = Z 214 → Z 214 0 = nI n → n ≤ 10 → I_ (Z 214) n → mop (mv_ l M h) (l 0) = some (v, mv_ l (mT_ M T2) h)) : ∃ h1, chF_ why op h (A 209) = some (.inl v, h1) ∧ MS_ A K h1 (fun h1 => chM_ ref mop h1 (A 213)) v (nI 0) := by
  obtain ⟨n, hn, hT, R, I⟩ := TR_n s.1
  obtain ⟨s1, s2, s3, ⟨c, p, hc, hp, ec, ep, em6, s4⟩, s5, s6, s7, s8⟩ := s
  have ew := hwhy (lt_ A 0) (GG 0) (wt_ Z 0) h n (WD_t hW (by decide)).1 R I
  rw [(WD_t hW (by decide)).2] at ew
  have eis := tv_is (g := GG 0) (w := wt_ Z 0) (WD_t hW (show 0 < 11 by decide)).1
  rw [(WD_t hW (by decide)).2] at eis
  obtain ⟨h1, Z1, e1, W1, t1, p1, c1, z1, z1x⟩ := x_remember hW s1 hp hc ep ec (s2 (3 + p) (by omega))
  have hZ0 : ∀ i, i < 16 → Z1 i = Z i := fun i hi => z1 i (by omega) (by omega)
  have R1 : R_ (GG 0) (wt_ Z1 0) (Z 214) n := R_cg R (fun i hi => hZ0 _ (by omega))
  obtain ⟨g', w', n', eo, R2, I2⟩ := hop (lt_ A 0) (GG 0) (wt_ Z1 0) h1 n (WD_t W1 (by decide)).1 R1 I
  rw [(WD_t W1 (by decide)).2] at eo
  have eis1 := tv_is (g := GG 0) (w := wt_ Z1 0) (WD_t W1 (show 0 < 11 by decide)).1
  rw [(WD_t W1 (by decide)).2] at eis1
  have W9 := WD_tp (g' := g') (w' := w') W1 (show 0 < 11 by decide)
  refine ⟨tv_ (lt_ A 0) g' w' h1, ?_, ⟨_, _, _, _, W9⟩, fun K2 H HX => ?_⟩
  · unfold chF_
    rw [X_now hW, Option.bind_some, show fx_is h (A 0) 3 = some () from eis, Option.bind_some, show why h (A 0) = _ from ew, Option.bind_some, WD_xis hW, Option.bind_some, x_ok, Option.bind_some]
    rw [if_pos (show (nI 0 : Int32) = 0 from rfl), WD_xis hW, Option.bind_some, e1, Option.bind_some, X_now W1, Option.bind_some, show fx_is h1 (A 0) 3 = some () from eis1, Option.bind_some, show op h1 (A 0) = _ from eo, Option.bind_some]
  have W2 := HX _ _ _ _ W9
  have hZ2 : ∀ i, 16 ≤ i → zu_ Z1 (16 * 0) 16 w' i = Z1 i := fun i hi => zu_out (by omega)
  have hM : mw_ (zu_ Z1 (16 * 0) 16 w') = mw_ Z := by
    funext j
    show zu_ Z1 (16 * 0) 16 w' (213 + j) = Z (213 + j)
    rw [hZ2 _ (by omega), z1 _ (by omega) (by omega)]
  obtain ⟨hl, em⟩ := WD_m W2
  rw [hM] at em
  have eb := m_begins (M := mw_ Z) hl
  rw [em] at eb
  have emis := mv_is (M := mw_ Z) hl
  rw [em] at emis
  have er := href (lm_ A) (mBg_ (mw_ Z)) H n hl (bg_r (by decide) (by decide)) hT hn I
  have eo2 := hmop (lm_ A) (mBg_ (mw_ Z)) H n hl (bg_r (by decide) (by decide)) hT hn I
  have e6 : mT_ (mBg_ (mw_ Z)) T2 0 6 = nI c := by
    rw [mT_n (by decide), bg_0 (by decide)]
    exact em6
  have ek := m_keeps (M := mT_ (mBg_ (mw_ Z)) T2) hl hc e6 v
  have W3 := WD_mp (M' := mKp_ (mT_ (mBg_ (mw_ Z)) T2) c) W2
  obtain ⟨k6, k0, kr, k5⟩ := kp_5 (M := mT_ (mBg_ (mw_ Z)) T2) hc
  generalize hMk : mKp_ (mT_ (mBg_ (mw_ Z)) T2) c = MK at *
  refine ⟨_, ?_, ?_, _, _, _, _, W3, ?_⟩
  · show chM_ ref mop H (A 213) = _
    unfold chM_
    rw [show fx_is H (A 213) 6 = some () from emis, Option.bind_some, show F_X6_begins H (A 213) = _ from eb, Option.bind_some, show fx_is (mv_ (lm_ A) (mBg_ (mw_ Z)) H) (A 213) 6 = some () from mv_is hl, Option.bind_some, show ref (mv_ (lm_ A) (mBg_ (mw_ Z)) H) (A 213) = _ from er, Option.bind_some]
    unfold mR_
    dsimp only
    rw [if_pos (show (nI 0 : Int32) = 0 from rfl), show fx_is (mv_ (lm_ A) (mBg_ (mw_ Z)) H) (A 213) 6 = some () from mv_is hl, Option.bind_some, show mop (mv_ (lm_ A) (mBg_ (mw_ Z)) H) (A 213) = _ from eo2, Option.bind_some, show fx_is (mv_ (lm_ A) (mT_ (mBg_ (mw_ Z)) T2) H) (A 213) 6 = some () from mv_is hl, Option.bind_some, show F_X6_keeps (mv_ (lm_ A) (mT_ (mBg_ (mw_ Z)) T2) H) (A 213) v = _ from ek, Option.bind_some]
  · rw [mg5 W3, show zu_ (zu_ Z1 (16 * 0) 16 w') 213 11 MK 213 = MK 0 from zm_in (j := 0) (by decide), k0 5 (by decide), mT_n (by decide), bg_5]
  · have zz : ∀ i, i < 213 → zu_ (zu_ Z1 (16 * 0) 16 w') 213 11 MK i = zu_ Z1 (16 * 0) 16 w' i := fun i hi => zm_out hi
    have zc : ∀ i, 16 ≤ i → i < 213 → zu_ (zu_ Z1 (16 * 0) 16 w') 213 11 MK i = Z1 i := fun i h16 hi => by rw [zz i hi, hZ2 i h16]
    have zM : ∀ j, j < 11 → zu_ (zu_ Z1 (16 * 0) 16 w') 213 11 MK (213 + j) = MK j := fun j hj => zm_in hj
    have mk0 : ∀ k, k ≠ 6 → k ≠ 5 → MK 0 k = Z 213 k := fun k h6 h5 => by rw [k0 k h6, mT_n (by decide), bg_0 h5]
    have mkr : ∀ j, j ≠ 0 → j ≠ 1 → j ≠ 2 → j ≠ 5 → MK j = Z (213 + j) := fun j h0 h1 h2 h5 => by rw [kr j h0 h5, mT_n h1, bg_r h0 h2]
    have m1 : MK 1 = T2 := by rw [kr 1 (by decide) (by decide), mT_1]
    refine ⟨⟨n', ?_, ?_⟩, fun k hk => ?_, ?_, ⟨min 8 (c + 1), (p + 1) % 8, by omega, Nat.mod_lt _ (by decide), ?_, ?_, ?_, ?_⟩, ?_, ?_, ?_, ?_⟩
    · rw [show zu_ (zu_ Z1 (16 * 0) 16 w') 213 11 MK 214 = MK 1 from zM 1 (by decide), m1, va_up_self]
      refine R_cg R2 (fun i hi => ?_)
      show zu_ (zu_ Z1 (16 * 0) 16 w') 213 11 MK (16 * 0 + i) = w' i
      rw [zz _ (by omega), zu_in hi]
    · rw [show zu_ (zu_ Z1 (16 * 0) 16 w') 213 11 MK 214 = MK 1 from zM 1 (by decide), m1]
      exact I2
    · by_cases e : k = 0
      · rw [e, va_up_self]
        exact ⟨fun j hj => R_si2 R2 hj, R2.2.2.2.2.2.2⟩
      · rw [va_up_ne _ _ e]
        exact s2 k hk
    · rw [zc 209 (by decide) (by decide), z1x 3 (by decide) (by decide), show zu_ (zu_ Z1 (16 * 0) 16 w') 213 11 MK 213 = MK 0 from zM 0 (by decide), mk0 14 (by decide) (by decide), show zu_ (zu_ Z1 (16 * 0) 16 w') 213 11 MK 217 = MK 4 from zM 4 (by decide), mkr 4 (by decide) (by decide) (by decide) (by decide)]
      refine ⟨s3.1, s3.2.elim .inl (fun q => .inr ⟨q.1, TR_cg q.2 (va_up_ne _ _ (by decide)) (fun i hi => ?_) (fun _ _ => rfl)⟩)⟩
      rw [zc _ (by omega) (by omega), z1 _ (by omega) (by omega)]
    · rw [zc 209 (by decide) (by decide), c1]
    · rw [zc 209 (by decide) (by decide), p1]
    · rw [show zu_ (zu_ Z1 (16 * 0) 16 w') 213 11 MK 213 = MK 0 from zM 0 (by decide), k6]
    · rw [show zu_ (zu_ Z1 (16 * 0) 16 w') 213 11 MK 218 = MK 5 from zM 5 (by decide)]
      refine ring_ (P := fun s U => TR_ GG Z (3 + s) U) (Q := fun s U => TR_ (va_up GG 0 g') (zu_ (zu_ Z1 (16 * 0) 16 w') 213 11 MK) (3 + s) U) (C := Z 218) (T := Z 214) hp hc s4 (TR_cg t1 (va_up_ne _ _ (by omega)) (fun i hi => zc _ (by omega) (by omega)) (fun _ _ => rfl)) (fun s U hs hne t => TR_cg t (va_up_ne _ _ (by omega)) (fun i hi => by rw [zc _ (by omega) (by omega), z1 _ (by omega) (by omega)]) (fun _ _ => rfl)) (fun s U U' e t => TR_cg t rfl (fun _ _ => rfl) e) (fun i hi k hk => ?_)
      rw [k5 i hi k hk, mT_n (by decide), mT_n (by decide), bg_2 hk, bg_r (by decide) (by decide)]
    · rw [show zu_ (zu_ Z1 (16 * 0) 16 w') 213 11 MK 213 = MK 0 from zM 0 (by decide), mk0 9 (by decide) (by decide), mk0 10 (by decide) (by decide), mk0 11 (by decide) (by decide), mk0 12 (by decide) (by decide)]
      exact s5
    · rw [zc 209 (by decide) (by decide), z1x 9 (by decide) (by decide), show zu_ (zu_ Z1 (16 * 0) 16 w') 213 11 MK 213 = MK 0 from zM 0 (by decide), mk0 13 (by decide) (by decide)]
      exact s6
    · rw [zc 207 (by decide) (by decide), zc 208 (by decide) (by decide), z1 207 (by omega) (by decide), z1 208 (by omega) (by decide), show zu_ (zu_ Z1 (16 * 0) 16 w') 213 11 MK 213 = MK 0 from zM 0 (by decide), mk0 19 (by decide) (by decide), show zu_ (zu_ Z1 (16 * 0) 16 w') 213 11 MK 220 = MK 7 from zM 7 (by decide), mkr 7 (by decide) (by decide) (by decide) (by decide)]
      exact s7
    · rw [zc 211 (by decide) (by decide), zc 212 (by decide) (by decide), z1 211 (by omega) (by decide), z1 212 (by omega) (by decide), show zu_ (zu_ Z1 (16 * 0) 16 w') 213 11 MK 213 = MK 0 from zM 0 (by decide), mk0 25 (by decide) (by decide), show zu_ (zu_ Z1 (16 * 0) 16 w') 213 11 MK 223 = MK 10 from zM 10 (by decide), mkr 10 (by decide) (by decide) (by decide) (by decide)]
      exact s8
end CH

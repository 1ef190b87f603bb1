/-! the nine changes -/
def RS_ (A : Nat → Nat) (K : Nat → mm_Ce) (ex : List String) (c : Option ((Int32 ⊕ String) × mm_S)) (m : mm_S → Option (Int32 × mm_S)) : Prop := ∃ o h1 v k, c = some (o, h1) ∧ OK_ ex o v k ∧ MS_ A K h1 m v k
theorem RS_o {A : Nat → Nat} {K : Nat → mm_Ce} {ex : List String} {c : Option ((Int32 ⊕ String) × mm_S)} {m : mm_S → Option (Int32 × mm_S)} (r : RS_ A K ex c m) : ∃ o h1 v h2 k, c = some (o, h1) ∧ m h1 = some (v, h2) ∧ fx_gI h2 (A 213) 6 5 = some k ∧ OK_ ex o v k ∧ ST_ A K h2 := by
  obtain ⟨o, h1, v, k, a1, a2, a3⟩ := r
  obtain ⟨h2, a4, a5, a6⟩ := a3.2 K h1 (fun _ _ _ _ w => w)
  exact ⟨o, h1, v, h2, k, a1, a4, a5, a2, a6⟩
def exU_ : List String := ["java/lang/UnsupportedOperationException"]
section CS
variable {A : Nat → Nat} {K : Nat → mm_Ce} {h : mm_S}
theorem n_u {g : Nat → Nat} {w : Nat → Nat → Int32} {T : Nat → Int32} {n n' : Nat} (R : R_ g w T n') (hT : T 0 = nI n) (hn : n ≤ 10) : n' = n := by
  have h1 := R_T0 R
  have h2 := R_n R
  rw [hT, nI_eq (by omega) (by omega)] at h1
  exact h1.symm
theorem n_v {T : Nat → Int32} {n n' : Nat} (h1 : T 0 = nI n') (h2 : n' ≤ 10) (hT : T 0 = nI n) (hn : n ≤ 10) : n' = n := by
  rw [hT, nI_eq (by omega) (by omega)] at h1
  exact h1.symm
/-- both ways of a change -/
theorem chg_ {GG : Nat → Nat → Nat} {Z : Nat → Nat → Int32} {XL : Nat → Int64} {cap : Nat} {why : mm_S → Nat → Option Int64} {op : mm_S → Nat → Option (Int32 × mm_S)} {ref mop : mm_S → Nat → Option (Int32 × mm_S)} (hW : WD_ A GG Z XL cap K h) (s : SM_ GG Z XL cap) {n : Nat} (hn : n ≤ 10) (hT : Z 214 0 = nI n) (q : Option (Int32 × Int32)) (hq : ∀ r, q = some r → r.1 ≠ nI 0) (hwhy : ∀ (l g : Nat → Nat) (w : Nat → Nat → Int32) (h : mm_S), ov_L 16 l h → R_ g w (Z 214) n → I_ (Z 214) n → why (tv_ l g w h) (l 0) = some (rL_ q)) (href : ∀ (l : Nat → Nat) (M : Nat → Nat → Int32) (h : mm_S), ov_L 11 l h → M 1 = Z 214 → I_ (Z 214) n → ref (mv_ l M h) (l 0) = some (mR_ l M h q)) (hop : q = none → I_ (Z 214) n → ∃ v T2, (∀ (l g : Nat → Nat) (w : Nat → Nat → Int32) (h : mm_S), ov_L 16 l h → R_ g w (Z 214) n → ∃ g' w' n', op (tv_ l g w h) (l 0) = some (v, tv_ l g' w' h) ∧ R_ g' w' T2 n' ∧ I_ T2 n') ∧ ∀ (l : Nat → Nat) (M : Nat → Nat → Int32) (h : mm_S), ov_L 11 l h → M 1 = Z 214 → mop (mv_ l M h) (l 0) = some (v, mv_ l (mT_ M T2) h)) : RS_ A K exU_ (chF_ why op h (A 209)) (fun h1 => chM_ ref mop h1 (A 213)) := by
  cases e : q with
  | some r =>
    subst e
    obtain ⟨h1, v, a1, a2⟩ := chg_no (op := op) (mop := mop) hW s (hq r rfl) (fun l g w h n' hl R I => by
      have := n_u R hT hn
      subst this
      exact hwhy l g w h hl R I) (fun l M h n' hl e e0 hn' I => by
      have := n_v e0 hn' hT hn
      subst this
      exact href l M h hl e I)
    exact ⟨_, h1, v, nI 1, a1, .inr ⟨0, _, rfl, rfl, rfl⟩, a2⟩
  | none =>
    subst e
    obtain ⟨n0, hn0, hT0, R0, I0⟩ := TR_n s.1
    have := n_v hT0 hn0 hT hn
    subst this
    obtain ⟨v, T2, b1, b2⟩ := hop rfl I0
    obtain ⟨h1, a1, a2⟩ := chg_yes (ref := ref) (v := v) (T2 := T2) hW s (fun l g w h n' hl R I => by
      have := n_u R hT hn
      subst this
      exact hwhy l g w h hl R I) (fun l g w h n' hl R I => by
      have := n_u R hT hn
      subst this
      exact b1 l g w h hl R) (fun l M h n' hl e e0 hn' I => by
      have := n_v e0 hn' hT hn
      subst this
      exact href l M h hl e I) (fun l M h n' hl e e0 hn' I => b2 l M h hl e)
    exact ⟨_, h1, v, nI 0, a1, .inl ⟨rfl, rfl⟩, a2⟩
theorem o_halve (hs : ST_ A K h) (x : Int32) : RS_ A K exU_ (F_X5_halve h (A 209) x) (fun h1 => F_X6_halve h1 (A 213) x) := by
  obtain ⟨GG, Z, XL, cap, hW, s⟩ := hs
  obtain ⟨n, hn, hT, -, -⟩ := TR_n s.1
  refine chg_ (why := fun h t => F_X3_whyNotHalve h t x) (op := fun h t => F_X3_halveSteps h t x) (ref := fun h t => F_X6_isRefusedHalve h t x) (mop := fun h t => F_X6_halves h t x) hW s hn hT (qrHalve_ (Z 214) n x) (fun r => qn_halve) (fun l g w h hl R I => T_nHalve hl R I x) (fun l M h hl e I => by
    have := m_nHalve (M := M) (h := h) hl (by rw [e]; exact hT) hn x
    rw [e] at this
    exact this) (fun e I => ?_)
  unfold qrHalve_ at e
  split at e
  · cases e
  · next hx =>
    split at e
    · cases e
    · next h3 =>
      obtain ⟨j, hj, rfl⟩ := S_of hn (Decidable.not_not.mp hx)
      rw [cl_nI (by omega)] at h3
      refine ⟨(sT_ (Z 214) j 2 + nI 1) / nI 2, tHalve_ (Z 214) j, fun l g w h hl R => ?_, fun l M h hl e => ?_⟩
      · obtain ⟨w', e, R'⟩ := c_halve hl R hj
        exact ⟨g, w', n, e, R', I_halve I hj (fun q => h3 (.inl q))⟩
      · have := m_halve (M := M) (h := h) hl (show j < 10 by omega)
        rw [e] at this
        exact this
theorem o_tear (hs : ST_ A K h) (x : Int32) : RS_ A K exU_ (F_X5_tear h (A 209) x) (fun h1 => F_X6_tear h1 (A 213) x) := by
  obtain ⟨GG, Z, XL, cap, hW, s⟩ := hs
  obtain ⟨n, hn, hT, -, -⟩ := TR_n s.1
  refine chg_ (why := fun h t => F_X3_whyNotTear h t x) (op := fun h t => F_X3_removeStair h t x) (ref := fun h t => F_X6_isNoStair h t x) (mop := fun h t => F_X6_tears h t x) hW s hn hT (qrTear_ n x) (fun r => qn_tear) (fun l g w h hl R I => T_nTear hl R x) (fun l M h hl e I => m_noS hl (by rw [e]; exact hT) hn x) (fun e I => ?_)
  unfold qrTear_ at e
  split at e
  · cases e
  · next hx =>
    obtain ⟨j, hj, rfl⟩ := S_of hn (Decidable.not_not.mp hx)
    refine ⟨nI (n - 1), tTear_ (Z 214) n j, fun l g w h hl R => ?_, fun l M h hl e => ?_⟩
    · obtain ⟨g', w', e, R'⟩ := c_tear hl R hj
      exact ⟨g', w', n - 1, e, R', I_tear I hj⟩
    · have := m_tear (M := M) (h := h) hl (by rw [e]; exact hT) hn hj
      rw [e] at this
      exact this
theorem qG_none {n : Nat} {a x : Int32} {k : Option (Int32 × Int32)} (h : qG_ n a x k = none) : In_ (nI 0) (nI 1) a = true ∧ S_ n x = true ∧ k = none := by
  unfold qG_ at h
  split at h
  · cases h
  · next h1 =>
    split at h
    · cases h
    · next h2 => exact ⟨Decidable.not_not.mp h1, Decidable.not_not.mp h2, h⟩
theorem o_lease (hs : ST_ A K h) (a x d : Int32) : RS_ A K exU_ (F_X5_lease h (A 209) a x d) (fun h1 => F_X6_lease h1 (A 213) a x d) := by
  obtain ⟨GG, Z, XL, cap, hW, s⟩ := hs
  obtain ⟨n, hn, hT, -, -⟩ := TR_n s.1
  refine chg_ (why := fun h t => F_X3_whyNotLease h t a x d) (op := fun h t => F_X3_leaseTo h t a x d) (ref := fun h t => F_X6_isRefusedLease h t a x d) (mop := fun h t => F_X6_leases h t a x d) hW s hn hT (qrLease_ (Z 214) n a x d) (fun r => qn_lease) (fun l g w h hl R I => T_nLease hl R I a x d) (fun l M h hl e I => by
    have := m_nLease (M := M) (h := h) hl (by rw [e]; exact hT) hn a x d
    rw [e] at this
    exact this) (fun e I => ?_)
  unfold qrLease_ at e
  obtain ⟨ha, hx, e2⟩ := qG_none e
  obtain ⟨j, hj, rfl⟩ := S_of hn hx
  obtain ⟨b, hb, rfl⟩ := In_of (by decide) ha
  split at e2
  · cases e2
  · next hd =>
    have hd2 := In_iff.mp (Decidable.not_not.mp hd)
    obtain ⟨y, hy, rfl⟩ := In_of (m := 9) (by decide) (In_iff.mpr ⟨Int32.le_trans (show nI 0 ≤ nI 1 by decide) hd2.1, hd2.2⟩)
    have hy1 := (nI_leI (by decide) (by omega)).mp hd2.1
    refine ⟨rent_ (sT_ (Z 214) j), tLease_ (Z 214) j (nI b) (nI y), fun l g w h hl R => ?_, fun l M h hl e => ?_⟩
    · obtain ⟨w', e, R'⟩ := c_lease hl R hj (nI b) (nI y)
      exact ⟨g, w', n, e, R', I_lease I hj (by omega) hy1 hy⟩
    · have := m_lease (M := M) (h := h) hl (show j < 10 by omega) (nI b) (nI y)
      rw [e] at this
      exact this
theorem o_climb (hs : ST_ A K h) (a x : Int32) : RS_ A K exU_ (F_X5_climb h (A 209) a x) (fun h1 => F_X6_climb h1 (A 213) a x) := by
  obtain ⟨GG, Z, XL, cap, hW, s⟩ := hs
  obtain ⟨n, hn, hT, -, -⟩ := TR_n s.1
  refine chg_ (why := fun h t => F_X3_whyNotClimb h t a x) (op := fun h t => F_X3_goOver h t a x) (ref := fun h t => F_X6_isRefusedClimb h t a x) (mop := fun h t => F_X6_climbs h t a x) hW s hn hT (qrClimb_ (Z 214) n a x) (fun r => qn_climb) (fun l g w h hl R I => T_nClimb hl R I a x) (fun l M h hl e I => by
    have := m_nClimb (M := M) (h := h) hl (by rw [e]; exact hT) hn (by rw [e]; exact I) a x
    rw [e] at this
    exact this) (fun e I => ?_)
  unfold qrClimb_ at e
  obtain ⟨ha, hx, e⟩ := qG_none e
  obtain ⟨j, hj, rfl⟩ := S_of hn hx
  obtain ⟨b, hb, rfl⟩ := In_of (by decide) ha
  have hb2 : b < 2 := by omega
  rw [cl_nI (show b < 2 ^ 31 by omega), cl_nI (show j < 2 ^ 31 by omega)] at e
  split at e
  · cases e
  · next he =>
    split at e
    · cases e
    · next ho =>
      rw [oc_cl] at ho
      refine ⟨cost_ (sT_ (Z 214) j) (nI b), tClimb_ (Z 214) b j, fun l g w h hl R => ?_, fun l M h hl e => ?_⟩
      · obtain ⟨w', e, R'⟩ := c_climb hl R I hb2 hj
        exact ⟨g, w', n, e, R', I_climb I hb2 hj ho⟩
      · have := m_climb (M := M) (h := h) hl hn (by rw [e]; exact I) hb2 hj (by rw [e]; exact Decidable.not_not.mp he)
        rw [e] at this
        exact this
theorem o_levy (hs : ST_ A K h) (a x : Int32) : RS_ A K exU_ (F_X5_levy h (A 209) a x) (fun h1 => F_X6_levy h1 (A 213) a x) := by
  obtain ⟨GG, Z, XL, cap, hW, s⟩ := hs
  obtain ⟨n, hn, hT, -, -⟩ := TR_n s.1
  refine chg_ (why := fun h t => F_X3_whyNotLevy h t a x) (op := fun h t => F_X3_levyDust h t a x) (ref := fun h t => F_X6_isRefusedLevy h t a x) (mop := fun h t => F_X6_levies h t a x) hW s hn hT (qrLevy_ (Z 214) n a x) (fun r => qn_levy) (fun l g w h hl R I => T_nLevy hl R I a x) (fun l M h hl e I => by
    have := m_nLevy (M := M) (h := h) hl (by rw [e]; exact hT) hn (by rw [e]; exact I) a x
    rw [e] at this
    exact this) (fun e I => ?_)
  have e0 := e
  unfold qrLevy_ at e
  obtain ⟨ha, hx, -⟩ := qG_none e
  obtain ⟨j, hj, rfl⟩ := S_of hn hx
  obtain ⟨b, hb, rfl⟩ := In_of (by decide) ha
  have hb2 : b < 2 := by omega
  refine ⟨tLevyC_ (Z 214) b j, tLevy_ (Z 214) b j (tLevyC_ (Z 214) b j), fun l g w h hl R => ?_, fun l M h hl e => ?_⟩
  · obtain ⟨w', e, R'⟩ := c_levy hl R I hb2 hj e0
    exact ⟨g, w', n, e, R', I_levy I hb2 hj⟩
  · have := m_levy (M := M) (h := h) hl hb2 (show j < 10 by omega)
    rw [e] at this
    exact this
theorem o_take (hs : ST_ A K h) (x : Int32) : RS_ A K exU_ (F_X5_take h (A 209) x) (fun h1 => F_X6_take h1 (A 213) x) := by
  obtain ⟨GG, Z, XL, cap, hW, s⟩ := hs
  obtain ⟨n, hn, hT, -, -⟩ := TR_n s.1
  refine chg_ (why := fun h t => F_X3_whyNotTake h t x) (op := fun h t => F_X3_takeLanding h t x) (ref := fun h t => F_X6_isRefusedTake h t x) (mop := fun h t => F_X6_takes h t x) hW s hn hT (qrTake_ (Z 214) n x) (fun r => qn_take) (fun l g w h hl R I => T_nTake hl R I x) (fun l M h hl e I => by
    have := m_nTake (M := M) (h := h) hl (by rw [e]; exact hT) hn (by rw [e]; exact I) x
    rw [e] at this
    exact this) (fun e I => ?_)
  obtain ⟨b, hb, eb⟩ := I.1
  unfold qrTake_ at e
  split at e
  · cases e
  · next hx =>
    obtain ⟨i, hi, rfl⟩ := In_of (by decide) (Decidable.not_not.mp hx)
    split at e
    · cases e
    · split at e
      · cases e
      · split at e
        · cases e
        · split at e
          · cases e
          · next hp =>
            rw [eb, cl_nI (show b < 2 ^ 31 by omega), cl_nI (show i < 2 ^ 31 by omega)] at hp
            refine ⟨gT_ (Z 214) b 0 - price_ (Z 214) i, tTake_ (Z 214) b i, fun l g w h hl R => ?_, fun l M h hl e => ?_⟩
            · obtain ⟨w', e, R'⟩ := c_take hl R hb eb (show i < 8 by omega)
              exact ⟨g, w', n, e, R', I_take I hb (by omega) hp⟩
            · have := m_take (M := M) (h := h) hl hb (by rw [e]; exact eb) (show i < 8 by omega)
              rw [e] at this
              exact this
theorem o_free (hs : ST_ A K h) (a x : Int32) : RS_ A K exU_ (F_X5_free h (A 209) a x) (fun h1 => F_X6_free h1 (A 213) a x) := by
  obtain ⟨GG, Z, XL, cap, hW, s⟩ := hs
  obtain ⟨n, hn, hT, -, -⟩ := TR_n s.1
  refine chg_ (why := fun h t => F_X3_whyNotFree h t a x) (op := fun h t => F_X3_freeLanding h t a x) (ref := fun h t => F_X6_isRefusedCede h t a x) (mop := fun h t => F_X6_cedes h t a x) hW s hn hT (qrFree_ (Z 214) a x) (fun r => qn_free) (fun l g w h hl R I => T_nFree hl R a x) (fun l M h hl e I => by
    have := m_nFree (M := M) (h := h) hl (by rw [e]; exact hT) hn a x
    rw [e] at this
    exact this) (fun e I => ?_)
  unfold qrFree_ at e
  split at e
  · cases e
  · split at e
    · cases e
    · next hx =>
      obtain ⟨i, hi, rfl⟩ := In_of (by decide) (Decidable.not_not.mp hx)
      split at e
      · cases e
      · split at e
        · cases e
        · next hw =>
          refine ⟨qL_ (tFree_ (Z 214) i) a, tFree_ (Z 214) i, fun l g w h hl R => ?_, fun l M h hl e => ?_⟩
          · obtain ⟨w', e, R'⟩ := c_free hl R (show i < 8 by omega) a
            exact ⟨g, w', n, e, R', I_free I (by omega) (Decidable.not_not.mp hw)⟩
          · have := m_free (M := M) (h := h) hl (show i < 8 by omega) a
            rw [e] at this
            exact this
theorem o_build (hs : ST_ A K h) (a b s : Int32) : RS_ A K exU_ (F_X5_build h (A 209) a b s) (fun h1 => F_X6_build h1 (A 213) a b s) := by
  obtain ⟨GG, Z, XL, cap, hW, sm⟩ := hs
  obtain ⟨n, hn, hT, -, -⟩ := TR_n sm.1
  refine chg_ (why := fun h t => F_X3_whyNotBuild h t a b s) (op := fun h t => F_X3_addStair h t a b s) (ref := fun h t => F_X6_isRefusedBuild h t a b s) (mop := fun h t => F_X6_builds h t a b s) hW sm hn hT (qrBuild_ (Z 214) n a b s) (fun r => qn_build) (fun l g w h hl R I => T_nBuild hl R a b s) (fun l M h hl e I => by
    have := m_nBuild (M := M) (h := h) hl (by rw [e]; exact hT) hn (by rw [e]; exact I) a b s
    rw [e] at this
    exact this) (fun e I => ?_)
  unfold qrBuild_ at e
  split at e
  · cases e
  · next ha =>
    split at e
    · cases e
    · next hb =>
      split at e
      · cases e
      · next hs =>
        split at e
        · cases e
        · next hab =>
          split at e
          · cases e
          · next hq =>
            split at e
            · cases e
            · next h10 =>
              obtain ⟨p, hp, rfl⟩ := In_of (by decide) (Decidable.not_not.mp ha)
              obtain ⟨q, hq2, rfl⟩ := In_of (by decide) (Decidable.not_not.mp hb)
              have hs2 := In_iff.mp (Decidable.not_not.mp hs)
              obtain ⟨y, hy, rfl⟩ := In_of (m := 40) (by decide) (In_iff.mpr ⟨Int32.le_trans (show nI 0 ≤ nI 1 by decide) hs2.1, hs2.2⟩)
              have hy1 := (nI_leI (by decide) (by omega)).mp hs2.1
              have hn10 : n < 10 := by omega
              refine ⟨nI n, tBuild_ (Z 214) n (nI p) (nI q) (nI y), fun l g w h hl R => ?_, fun l M h hl e => ?_⟩
              · obtain ⟨w', e, R'⟩ := c_build hl R hn10 (nI p) (nI q) (nI y)
                exact ⟨g, w', n + 1, e, R', I_build I hn10 (by omega) (by omega) (fun z => hab (by rw [z])) hy1 hy hq⟩
              · have := m_build (M := M) (h := h) hl (by rw [e]; exact hT) hn10 (nI p) (nI q) (nI y)
                rw [e] at this
                exact this
theorem o_day (hs : ST_ A K h) : ∃ h1 v h2, F_X5_day h (A 209) = some (v, h1) ∧ F_X6_day h1 (A 213) = some (v, h2) ∧ ST_ A K h2 := by
  obtain ⟨GG, Z, XL, cap, hW, s⟩ := hs
  obtain ⟨n, hn, hT, -, -⟩ := TR_n s.1
  obtain ⟨o, h1, v, h2, k, a1, a2, a3, a4, a5⟩ := RS_o <| chg_ (why := fun _ _ => some (rL_ none)) (op := fun h t => F_X3_passDay h t) (ref := fun h _ => some (nI 0, h)) (mop := fun h t => F_X6_goesBy h t) hW s hn hT none (fun r e => by cases e) (fun l g w h hl R I => rfl) (fun l M h hl e I => rfl) (fun _ I => by
    refine ⟨(tDays_ (Z 214) n).1, tDay_ (Z 214) n, fun l g w h hl R => ?_, fun l M h hl e => ?_⟩
    · obtain ⟨w', e, R'⟩ := c_day hl R
      exact ⟨g, w', n, e, R', I_day I⟩
    · have := m_day (M := M) (h := h) hl (by rw [e]; exact hT) hn (by rw [e]; exact I)
      rw [e] at this
      exact this)
  unfold chF_ at a1
  rw [X_now hW, Option.bind_some] at a1
  obtain ⟨_, -, p1⟩ := mm_bind a1
  rw [Option.bind_some] at p1
  obtain ⟨_, e0, p2⟩ := mm_bind p1
  rw [x_ok, Option.bind_some] at p2
  rw [if_pos (show (nI 0 : Int32) = 0 from rfl)] at p2
  obtain ⟨_, e1, p3⟩ := mm_bind p2
  obtain ⟨v2, e2, p4⟩ := mm_bind p3
  obtain ⟨v4, e4, p5⟩ := mm_bind p4
  obtain ⟨_, e5, p6⟩ := mm_bind p5
  obtain ⟨v7, e7, p7⟩ := mm_bind p6
  unfold chM_ at a2
  obtain ⟨_, b1, q1⟩ := mm_bind a2
  obtain ⟨w2, b2, q2⟩ := mm_bind q1
  obtain ⟨_, b3, q3⟩ := mm_bind q2
  rw [Option.bind_some] at q3
  rw [if_pos (show (nI 0 : Int32) = 0 from rfl)] at q3
  obtain ⟨_, -, q4⟩ := mm_bind q3
  obtain ⟨w5, b5, q5⟩ := mm_bind q4
  obtain ⟨_, b6, q6⟩ := mm_bind q5
  obtain ⟨w8, b8, q7⟩ := mm_bind q6
  cases p7
  cases q7
  have ev : v7.1 = w8.1 := by
    rcases a4 with ⟨-, q⟩ | ⟨i, E, -, q, -⟩
    · exact Sum.inl.inj q
    · exact absurd q (by intro z; cases z)
  refine ⟨v7.2, v7.1, w8.2, ?_, ?_, a5⟩
  · unfold F_X5_day
    rw [WD_xis hW, Option.bind_some, e2, Option.bind_some, e4, Option.bind_some, e5, Option.bind_some, show F_X3_passDay v2 v4 = some v7 from e7, Option.bind_some]
  · unfold F_X6_day
    rw [b1, Option.bind_some, b2, Option.bind_some, b3, Option.bind_some, show F_X6_goesBy w2 (A 213) = some w5 from b5, Option.bind_some, show fx_is w5.2 (A 213) 6 = some _ from b6, Option.bind_some, b8, Option.bind_some, ev]
end CS

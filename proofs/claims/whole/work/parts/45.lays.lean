/-! the reference's search -/
section LA
variable {l : Nat → Nat} {M : Nat → Nat → Int32} {h : mm_S} {i j k b n s u v c : Nat} {x : Int32} {r d : Nat → Nat}
theorem mr_15' (hl : ov_L 11 l h) : fx_gR (mv_ l M h) (l 0) 6 15 = some (l 6) := mr_15 hl
theorem l_mn {a c : Nat} {b : Nat} (H : mm_S) (ha : a ≤ 1000000) (hb : b ≤ 1000000) (hc : c ≤ 1000000) : F_X6_least H (nI a) (nI b + nI c) = some (nI (min a (b + c))) := by
  unfold F_X6_least
  rw [nI_add]
  by_cases q : b + c ≤ a
  · rw [if_pos (nI_le q (by omega)), Nat.min_eq_right q]
  · rw [if_neg (nI_ge (by omega) (by omega)), Nat.min_eq_left (by omega)]
theorem w2_6 {y : Nat → Nat → Int32} {k : Nat} {v : Int32} : w2_ y 6 k v = yr_ y 6 (upd (y 6) k v) := by
  funext a
  by_cases e : a = 6
  · subst e
    rw [w2_upd, yr_at]
  · rw [w2_ne e, yr_ne e]
theorem m_len (hl : ov_L 11 l h) (hj : j < 10) (hx : x = m1_ ∨ ∃ b, b < 2 ∧ x = nI b) : F_X6_lengthOf (mv_ l M h) (l 0) (nI j) x = some (cost_ (sT_ (M 1) j) x) := by
  unfold F_X6_lengthOf
  rcases hx with rfl | ⟨b, hb, rfl⟩
  · rw [if_neg (by decide), mv_is hl, Option.bind_some, kj_i2, m_sv hl (by omega), Option.bind_some]
    unfold cost_
    rw [if_pos (.inl rfl)]
  · have hm : ¬ nI b = m1_ := fun q => absurd (congrArg Int32.toInt q) (by rw [nI_toInt (by omega)]; show ¬ (b : Int) = -1; omega)
    rw [if_pos (nI_pos' (by omega)), mv_is hl, Option.bind_some, m_br hl hj hm, Option.bind_some]
theorem m_lay1 (hl : ov_L 11 l h) (hT : M 1 0 = nI n) (hn : n ≤ 10) (I : I_ (M 1) n) (hx : x = m1_ ∨ ∃ b, b < 2 ∧ x = nI b) (hr : rv_ (M 6) r) (hso : so_ (ET_ (M 1) n x) s r) (z : Int32) : ∃ f r', F_X6_lays_L42 1000 (l 0) x z (nI 0) (mv_ l M h) = some (mv_ l (yr_ M 6 f) h) ∧ rv_ f r' ∧ so_ (ET_ (M 1) n x) s r' ∧ (∀ v, v < 8 → r' v ≤ r v) ∧ ∀ u v c, ET_ (M 1) n x u v c → r' v ≤ r u + c := by
  obtain ⟨x2, e, hp⟩ := lp_ (n := n) (f := fun m i (q : mm_S) => F_X6_lays_L42 m (l 0) x z (nI i) q) (P := fun i q => ∃ f r', q = mv_ l (yr_ M 6 f) h ∧ rv_ f r' ∧ so_ (ET_ (M 1) n x) s r' ∧ (∀ v, v < 8 → r' v ≤ r v) ∧ ∀ j u v c, j < i → u < 8 → v < 8 → ((sT_ (M 1) j 0 = nI u ∧ sT_ (M 1) j 1 = nI v) ∨ (sT_ (M 1) j 0 = nI v ∧ sT_ (M 1) j 1 = nI u)) → op_ (M 1) x u → op_ (M 1) x v → (1 ≤ c ∧ c ≤ 80 ∧ cost_ (sT_ (M 1) j) x = nI c) → r' v ≤ r u + c) (fun m i q hi hp => by
    obtain ⟨f, r1, rfl, g1, g2, g3, g5⟩ := hp
    obtain ⟨c0, c1, c2, ec⟩ := cost_n (I.2.2.2.2.1 i hi) x
    obtain ⟨p, t, hpt, ht, e1, e2⟩ := St_lo (I.2.2.2.2.1 i hi)
    have hp8 : p < 8 := by omega
    have hi10 : i < 10 := by omega
    have h60 : (yr_ M 6 f) 1 = M 1 := yr_ne (by decide)
    have h66 : (yr_ M 6 f) 6 = f := yr_at
    -- nothing is done
    have hskip : ¬ (op_ (M 1) x p ∧ op_ (M 1) x t) → ∀ j u v c, j < i + 1 → u < 8 → v < 8 → ((sT_ (M 1) j 0 = nI u ∧ sT_ (M 1) j 1 = nI v) ∨ (sT_ (M 1) j 0 = nI v ∧ sT_ (M 1) j 1 = nI u)) → op_ (M 1) x u → op_ (M 1) x v → (1 ≤ c ∧ c ≤ 80 ∧ cost_ (sT_ (M 1) j) x = nI c) → r1 v ≤ r u + c := by
      intro hno j u v c hj hu hv hc h1 h2 h3
      by_cases ej : j = i
      · subst ej
        rw [e1, e2, nI_eq (by omega) (by omega), nI_eq (by omega) (by omega), nI_eq (by omega) (by omega), nI_eq (by omega) (by omega)] at hc
        rcases hc with ⟨rfl, rfl⟩ | ⟨rfl, rfl⟩
        · exact absurd ⟨h1, h2⟩ hno
        · exact absurd ⟨h2, h1⟩ hno
      · exact g5 j u v c (by omega) hu hv hc h1 h2 h3
    -- both relaxings
    have hdo : op_ (M 1) x p → op_ (M 1) x t → ∃ f2 r2, (∀ z2 : mm_S → Option mm_S, (fx_gR (mv_ l (yr_ M 6 f) h) (l 0) 6 15).bind (fun v24 => (fx_gR (mv_ l (yr_ M 6 f) h) (l 0) 6 15).bind fun v26 => (fx_aI (mv_ l (yr_ M 6 f) h) v26 (nI t)).bind fun v28 => (fx_gR (mv_ l (yr_ M 6 f) h) (l 0) 6 15).bind fun v30 => (fx_aI (mv_ l (yr_ M 6 f) h) v30 (nI p)).bind fun v32 => (fx_is (mv_ l (yr_ M 6 f) h) (l 0) 6).bind fun _ => (F_X6_lengthOf (mv_ l (yr_ M 6 f) h) (l 0) (nI i) x).bind fun v35 => (F_X6_least (mv_ l (yr_ M 6 f) h) v28 (v32 + v35)).bind fun v37 => (fx_sI (mv_ l (yr_ M 6 f) h) v24 (nI t) v37).bind fun h39 => (fx_gR h39 (l 0) 6 15).bind fun v41 => (fx_gR h39 (l 0) 6 15).bind fun v43 => (fx_aI h39 v43 (nI p)).bind fun v45 => (fx_gR h39 (l 0) 6 15).bind fun v47 => (fx_aI h39 v47 (nI t)).bind fun v49 => (fx_is h39 (l 0) 6).bind fun _ => (F_X6_lengthOf h39 (l 0) (nI i) x).bind fun v52 => (F_X6_least h39 v45 (v49 + v52)).bind fun v54 => (fx_sI h39 v41 (nI p) v54).bind fun h56 => z2 h56) = z2 (mv_ l (yr_ M 6 f2) h)) ∧ rv_ f2 r2 ∧ so_ (ET_ (M 1) n x) s r2 ∧ (∀ v, v < 8 → r2 v ≤ r v) ∧ ∀ j u v c, j < i + 1 → u < 8 → v < 8 → ((sT_ (M 1) j 0 = nI u ∧ sT_ (M 1) j 1 = nI v) ∨ (sT_ (M 1) j 0 = nI v ∧ sT_ (M 1) j 1 = nI u)) → op_ (M 1) x u → op_ (M 1) x v → (1 ≤ c ∧ c ≤ 80 ∧ cost_ (sT_ (M 1) j) x = nI c) → r2 v ≤ r u + c := by
      intro op1 op2
      obtain ⟨a1, b1⟩ := g1 t ht
      obtain ⟨a2, b2⟩ := g1 p hp8
      have k1 := rv_up g1 (v := t) (m := min (r1 t) (r1 p + c0)) (by omega)
      have E1 : ET_ (M 1) n x p t c0 := ⟨i, hi, hp8, ht, c1, c2, ec, .inl ⟨e1, e2⟩, op1, op2⟩
      have k2 := so_up g2 ET_ed E1
      have E2 : ET_ (M 1) n x t p c0 := ET_sym _ _ _ E1
      have l1 := l_mn (c := c0) (mv_ l (yr_ M 6 f) h) b1 b2 (by omega)
      have n1 : va_up r1 t (min (r1 t) (r1 p + c0)) p = r1 p := va_up_ne _ _ (by omega)
      have n2 : va_up r1 t (min (r1 t) (r1 p + c0)) t = min (r1 t) (r1 p + c0) := va_up_self _ _ _
      obtain ⟨a3, b3⟩ := k1 p hp8
      obtain ⟨a4, b4⟩ := k1 t ht
      generalize hf2 : upd f t (nI (min (r1 t) (r1 p + c0))) = f2 at k1 a3 a4
      generalize hr2 : va_up r1 t (min (r1 t) (r1 p + c0)) = r2 at k1 k2 n1 n2 a3 a4 b3 b4
      have l2 := l_mn (c := c0) (mv_ l (yr_ M 6 f2) h) b3 b4 (by omega)
      have k3 := rv_up k1 (v := p) (m := min (r2 p) (r2 t + c0)) (by omega)
      have k4 := so_up k2 ET_ed E2
      refine ⟨_, _, fun z2 => ?_, k3, k4, fun v hv => ?_, fun j u v c hj hu hv hc q1 q2 q3 => ?_⟩
      · have h61 : (yr_ M 6 f2) 6 = f2 := yr_at
        have h62 : (yr_ M 6 f2) 1 = M 1 := yr_ne (by decide)
        simp only [mr_15 hl, Option.bind_some, mv_is hl, ma_6 hl ht, ma_6 hl hp8, h66, a1, a2, m_len hl hi10 hx, h60, ec, l1, ms_6 hl ht, ms_6 hl hp8, w2_6, hf2, yr_yr, h61, h62, a3, a4, l2]
      · by_cases ev : v = p
        · rw [ev, va_up_self]
          have := g3 p hp8
          omega
        · rw [va_up_ne _ _ ev, ← hr2]
          by_cases ev2 : v = t
          · rw [ev2, va_up_self]
            have := g3 t ht
            omega
          · rw [va_up_ne _ _ ev2]
            exact g3 v hv
      · by_cases ej : j = i
        · subst ej
          have hcc : c = c0 := by
            have := q3.2.2
            rw [ec, nI_eq (by omega) (by omega)] at this
            exact this.symm
          rw [e1, e2, nI_eq (by omega) (by omega), nI_eq (by omega) (by omega), nI_eq (by omega) (by omega), nI_eq (by omega) (by omega)] at hc
          rcases hc with ⟨rfl, rfl⟩ | ⟨rfl, rfl⟩
          · rw [va_up_ne _ _ (by omega)]
            have := g3 p hp8
            omega
          · rw [va_up_self]
            have := g3 t ht
            omega
        · have h1 := g5 j u v c (by omega) hu hv hc q1 q2 q3
          by_cases ev : v = p
          · rw [ev, va_up_self]
            rw [ev] at h1
            omega
          · rw [va_up_ne _ _ ev, ← hr2]
            by_cases ev2 : v = t
            · rw [ev2, va_up_self]
              rw [ev2] at h1
              omega
            · rw [va_up_ne _ _ ev2]
              exact h1
    rw [F_X6_lays_L42]
    simp only [mr_0 hl, Option.bind_some, kj_i0, m_at hl (show 0 < 110 by decide), h60, hT, mv_is hl, m_sv hl (show 34 + 7 * i + 0 < 110 by omega), kj_i1, m_sv hl (show 34 + 7 * i + 1 < 110 by omega), e1, e2, m_ow hl hp8, m_ow hl ht, kj_i2, kj_l0, ne_eq, nI_add]
    rw [if_neg (nI_ge hi (by omega))]
    rcases hx with rfl | ⟨b, hb, rfl⟩
    · rw [if_pos (show m1_ < nI 0 by decide)]
      obtain ⟨f2, r2, k0, k1, k2, k3, k4⟩ := hdo (.inl rfl) (.inl rfl)
      have k0 := k0 (fun H => F_X6_lays_L42 m (l 0) m1_ z (nI (i + 1)) H)
      simp only [mr_15 hl, Option.bind_some, mv_is hl] at k0 ⊢
      exact ⟨_, k0, f2, r2, rfl, k1, k2, k3, k4⟩
    · have hm : ¬ nI b = m1_ := fun q => absurd (congrArg Int32.toInt q) (by rw [nI_toInt (by omega)]; show ¬ (b : Int) = -1; omega)
      rw [if_neg (show ¬ nI b < nI 0 from nI_pos (by omega))]
      by_cases o1 : oT_ (M 1) p = nI 2
      · rw [if_pos o1]
        exact ⟨_, rfl, f, r1, rfl, g1, g2, g3, hskip (fun q => q.1.elim hm (fun q2 => q2 o1))⟩
      · rw [if_neg o1]
        by_cases o2 : oT_ (M 1) t = nI 2
        · rw [if_neg (fun q => q o2)]
          exact ⟨_, rfl, f, r1, rfl, g1, g2, g3, hskip (fun q => q.2.elim hm (fun q2 => q2 o2))⟩
        · rw [if_pos o2]
          obtain ⟨f2, r2, k0, k1, k2, k3, k4⟩ := hdo (.inr o1) (.inr o2)
          have k0 := k0 (fun H => F_X6_lays_L42 m (l 0) (nI b) z (nI (i + 1)) H)
          simp only [mr_15 hl, Option.bind_some, mv_is hl] at k0 ⊢
          exact ⟨_, k0, f2, r2, rfl, k1, k2, k3, k4⟩) n 0 (mv_ l M h) 1000 (by omega) ⟨M 6, r, by rw [yr_id], hr, hso, fun _ _ => Nat.le_refl _, fun j u v c hj => by omega⟩ (by omega)
  obtain ⟨f, r1, rfl, g1, g2, g3, g5⟩ := hp
  refine ⟨f, r1, ?_, g1, g2, g3, ?_⟩
  · rw [e, show 1000 - n = (999 - n) + 1 from by omega, F_X6_lays_L42, mr_0 hl, Option.bind_some, kj_i0, m_at hl (by decide), Option.bind_some, yr_ne (by decide), hT, if_pos (Int32.le_refl _)]
  · rintro u v c ⟨j, hj, hu, hv, c1, c2, c3, h6, h7, h8⟩
    exact g5 j u v c hj hu hv h6 h7 h8 ⟨c1, c2, c3⟩
theorem m_lays (hl : ov_L 11 l h) (hT : M 1 0 = nI n) (hn : n ≤ 10) (I : I_ (M 1) n) (hx : x = m1_ ∨ ∃ b, b < 2 ∧ x = nI b) (hs8 : s < 8) (hd : gd_ (ET_ (M 1) n x) s d) : ∃ f, F_X6_lays (mv_ l M h) (l 0) (nI s) x = some (mv_ l (yr_ M 6 f) h) ∧ ∀ v, v < 8 → f v = nI (d v) := by
  have hi : ∃ f, F_X6_lays_L2 1000 (l 0) (nI s) x (nI 0) (mv_ l M h) = some (mv_ l (yr_ M 6 f) h) ∧ ∀ v, v < 8 → f v = nI (va_up (fun _ => 1000000) s 0 v) := by
    obtain ⟨x2, e, hp⟩ := lp_ (n := 8) (f := fun m i (q : mm_S) => F_X6_lays_L2 m (l 0) (nI s) x (nI i) q) (P := fun i q => ∃ f, q = mv_ l (yr_ M 6 f) h ∧ ∀ v, v < i → f v = nI (va_up (fun _ => 1000000) s 0 v)) (fun m i q hi hp => by
      obtain ⟨f, rfl, h1⟩ := hp
      rw [F_X6_lays_L2, kk_b8, if_neg (nI_ge hi (by decide)), mr_15 hl, Option.bind_some]
      by_cases e : i = s
      · subst e
        refine ⟨_, ?_, upd f i (nI 0), rfl, fun v hv => ?_⟩
        · rw [if_neg (fun q => q rfl), kj_i0, ms_6 hl hi, Option.bind_some, nI_s, w2_6, yr_at, yr_yr]
        · by_cases ev : v = i
          · rw [ev, pk_us, va_up_self]
          · rw [pk_un ev]
            exact h1 v (by omega)
      · refine ⟨_, ?_, upd f i (nI 1000000), rfl, fun v hv => ?_⟩
        · rw [if_pos (fun q => e ((nI_eq (by omega) (by omega)).mp q)), ms_6 hl hi, Option.bind_some, nI_s, w2_6, yr_at, yr_yr]
        · by_cases ev : v = i
          · rw [ev, pk_us, va_up_ne _ _ e]
          · rw [pk_un ev]
            exact h1 v (by omega)) 8 0 (mv_ l M h) 1000 (by omega) ⟨M 6, by rw [yr_id], fun v hv => by omega⟩ (by omega)
    obtain ⟨f, rfl, h1⟩ := hp
    refine ⟨f, ?_, h1⟩
    rw [e, show 1000 - 8 = 991 + 1 from rfl, F_X6_lays_L2, kk_b8, if_pos (Int32.le_refl _)]
  obtain ⟨f, e, h1⟩ := hi
  have hr : rv_ f (va_up (fun _ => 1000000) s 0) := by
    intro v hv
    refine ⟨h1 v hv, ?_⟩
    by_cases ev : v = s
    · rw [ev, va_up_self]
      decide
    · rw [va_up_ne _ _ ev]
      exact Nat.le_refl _
  have hso : so_ (ET_ (M 1) n x) s (va_up (fun _ => 1000000) s 0) := by
    intro v hv
    by_cases ev : v = s
    · rw [ev, va_up_self]
      exact .inr ⟨by decide, 0, rfl, rfl⟩
    · rw [va_up_ne _ _ ev]
      exact .inl rfl
  obtain ⟨x2, e2, hp⟩ := lp_ (n := 8) (f := fun m i (q : mm_S) => F_X6_lays_L33 m (l 0) x (nI i) q) (P := fun i q => ∃ f r, q = mv_ l (yr_ M 6 f) h ∧ rv_ f r ∧ so_ (ET_ (M 1) n x) s r ∧ r s = 0 ∧ rk_ d i r) (fun m i q hi hp => by
    obtain ⟨f, r, rfl, k1, k2, k3, k4⟩ := hp
    have h60 : (yr_ M 6 f) 1 = M 1 := yr_ne (by decide)
    have h66 : (yr_ M 6 f) 6 = f := yr_at
    obtain ⟨f2, r2, a0, a1, a2, a3, a4⟩ := m_lay1 (M := yr_ M 6 f) (h := h) (n := n) (x := x) (r := r) (s := s) hl (by rw [h60, hT]) hn (by rw [h60]; exact I) hx (by rw [h66]; exact k1) (by rw [h60]; exact k2) (nI i)
    rw [h60] at a2 a4
    refine ⟨_, ?_, f2, r2, rfl, a1, a2, ?_, ?_⟩
    · rw [F_X6_lays_L33, kk_b8, if_neg (nI_ge hi (by decide)), show ki 0 = nI 0 from rfl, a0, Option.bind_some, nI_s, yr_yr]
    · have := a3 s hs8
      omega
    · exact rk_s hd ET_ed k4 a3 a4 k3 hs8) 8 0 (mv_ l (yr_ M 6 f) h) 1000 (by omega) ⟨_, _, rfl, hr, hso, by rw [va_up_self], rk_0 hd ET_ed (by rw [va_up_self])⟩ (by omega)
  obtain ⟨f2, r2, rfl, k1, k2, k3, k4⟩ := hp
  refine ⟨f2, ?_, fun v hv => ?_⟩
  · unfold F_X6_lays
    rw [show ki 0 = nI 0 from rfl, e, Option.bind_some, e2, show 1000 - 8 = 991 + 1 from rfl, F_X6_lays_L33, kk_b8, if_pos (Int32.le_refl _), Option.bind_some]
  · rw [(k1 v hv).1, rk_end hd k2 (by decide) k4 hv]
end LA

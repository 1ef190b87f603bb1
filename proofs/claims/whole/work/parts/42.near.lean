section DJ
variable {l l2 g : Nat → Nat} {w y : Nat → Nat → Int32} {h : mm_S} {a i j k b n u v c s : Nat} {T : Nat → Int32} {x : Int32} {r d : Nat → Nat}
theorem ET_oc (I : I_ T n) (hj : j < n) (hu : u < 8) (he : E_ (sT_ T j) (nI u) = true) (hc : 1 ≤ c ∧ c ≤ 80 ∧ cost_ (sT_ T j) x = nI c) (h1 : op_ T x u) (h2 : op_ T x (oc_ T (nI u) j)) : ET_ T n x u (oc_ T (nI u) j) c := by
  refine ⟨j, hj, hu, oc_lt I hj _, hc.1, hc.2.1, hc.2.2, ?_, h1, h2⟩
  have ho := oth_nI I hj (nI u)
  unfold oth_ at ho
  by_cases q : sT_ T j 0 = nI u
  · rw [if_pos q] at ho
    exact .inl ⟨q, ho⟩
  · rw [if_neg q] at ho
    exact .inr ⟨ho, (E_iff.mp he).resolve_left q⟩
theorem ET_inv (I : I_ T n) (h : ET_ T n x u v c) : ∃ j, j < n ∧ E_ (sT_ T j) (nI u) = true ∧ oc_ T (nI u) j = v ∧ (1 ≤ c ∧ c ≤ 80 ∧ cost_ (sT_ T j) x = nI c) ∧ op_ T x u ∧ op_ T x v := by
  obtain ⟨j, hj, hu, hv, c1, c2, c3, h6, h7, h8⟩ := h
  obtain ⟨p, q, hpq, hq, e1, e2⟩ := St_lo (I.2.2.2.2.1 j hj)
  refine ⟨j, hj, ?_, ?_, ⟨c1, c2, c3⟩, h7, h8⟩
  · rcases h6 with ⟨a1, a2⟩ | ⟨a1, a2⟩
    · exact E_iff.mpr (.inl a1)
    · exact E_iff.mpr (.inr a2)
  · unfold oc_
    rcases h6 with ⟨a1, a2⟩ | ⟨a1, a2⟩
    · rw [if_pos a1, a2, cl_nI (by omega)]
    · have hne : ¬ sT_ T j 0 = nI u := fun z => by
        rw [← a2, e1, e2, nI_eq (by omega) (by omega)] at z
        omega
      rw [if_neg hne, a1, cl_nI (by omega)]
theorem w_over (D : Dy_ l l2 g w h) (R : R_ g w T n) (I : I_ T n) (hj : j < n) (hu : u < 8) (ha : ri_ a) (hr : rv_ (y a) r) (x : Int32) (hc : c ≤ 80 ∧ cost_ (sT_ T j) x = nI c) : ∃ f r', F_X4_goOver (yv_ l y h) (l 0) (l2 0) x (l2 (g j)) (nI u) (l a) = some (yv_ l (yr_ y a f) h) ∧ rv_ f r' ∧ ((op_ T x (oc_ T (nI u) j) ∧ r' = va_up r (oc_ T (nI u) j) (min (r (oc_ T (nI u) j)) (r u + c))) ∨ (¬ op_ T x (oc_ T (nI u) j) ∧ r' = r)) := by
  have hv := oc_lt I hj (nI u)
  have ho := oth_nI I hj (nI u)
  generalize oc_ T (nI u) j = v at hv ho ⊢
  unfold F_X4_goOver
  obtain ⟨e1, b1⟩ := hr v hv
  obtain ⟨e2, b2⟩ := hr u hu
  obtain ⟨em, bm⟩ := mn_n (c := c) b1 b2 (by omega)
  simp only [Option.bind_some, Y_is D R hj, Y_oth D R hj, ho, Y_is3 D, Y_open D R hv, kj_l0, bI_n, yv_aI D.1 ha hv, yv_aI D.1 ha hu, e1, e2, Y_cost D R hj, hc.2, em, yv_sI D.1 ha hv]
  by_cases q : op_ T x v
  · refine ⟨_, _, ?_, rv_up hr bm, .inl ⟨q, rfl⟩⟩
    rw [if_neg (fun z => z q)]
  · refine ⟨y a, r, ?_, hr, .inr ⟨q, rfl⟩⟩
    rw [yr_id]
    exact if_pos q
/-- what goes on from a landing that is reached -/
theorem w_from (D : Dy_ l l2 g w h) (R : R_ g w T n) (I : I_ T n) (hu : u < 8) (hop : op_ T x u) (hr : rv_ (y 1) r) (hso : so_ (ET_ T n x) s r) : ∃ f r', F_X4_goOnFrom (yv_ l y h) (l 0) (l2 0) x (nI u) = some (yv_ l (yr_ y 1 f) h) ∧ rv_ f r' ∧ so_ (ET_ T n x) s r' ∧ (∀ v, r' v ≤ r v) ∧ ∀ v c, ET_ T n x u v c → r' v ≤ r u + c := by
  have hn := R_n R
  unfold F_X4_goOnFrom
  obtain ⟨x2, e, hp⟩ := lp_ (n := n) (f := fun m i (z : mm_S) => F_X4_goOnFrom_L3 m (l 0) (l2 0) x (nI u) (nI i) z) (P := fun i z => ∃ f r', z = yv_ l (yr_ y 1 f) h ∧ rv_ f r' ∧ so_ (ET_ T n x) s r' ∧ (∀ v, r' v ≤ r v) ∧ r' u = r u ∧ ∀ j c, j < i → E_ (sT_ T j) (nI u) = true → op_ T x (oc_ T (nI u) j) → (1 ≤ c ∧ c ≤ 80 ∧ cost_ (sT_ T j) x = nI c) → r' (oc_ T (nI u) j) ≤ r u + c) (fun m i z hi hp => by
    obtain ⟨f, r1, rfl, g1, g2, g3, g4, g5⟩ := hp
    have hone : (yr_ y 1 f) 1 = f := yr_at
    obtain ⟨c0, c1, c2, ec⟩ := cost_n (I.2.2.2.2.1 i hi) x
    rw [F_X4_goOnFrom_L3]
    by_cases he : E_ (sT_ T i) (nI u) = true
    · obtain ⟨f2, r2, e2, k1, k2⟩ := w_over (y := yr_ y 1 f) (r := r1) D R I hi hu (.inl rfl) (by rw [hone]; exact g1) x ⟨c2, ec⟩
      refine ⟨yv_ l (yr_ y 1 f2) h, ?_, f2, r2, rfl, k1, ?_⟩
      · simp only [Y_n D R, Option.bind_some]
        rw [if_neg (nI_ge hi (by omega))]
        simp only [Y_r2 D, Option.bind_some, Y_aS D R hi, Y_is D R hi, Y_E D R hi, kj_l0, bI_n, he, not_true_eq_false, if_false, yv_r0 D.1, yv_is D.1, e2, kj_i1, nI_add, yr_yr]
      · have hov := oc_lt I hi (nI u)
        have hvu : ¬ oc_ T (nI u) i = u := by
          obtain ⟨p, q, hpq, hq, e1, e2⟩ := St_lo (I.2.2.2.2.1 i hi)
          unfold oc_
          rcases E_iff.mp he with e3 | e3
          · rw [if_pos e3, e2, cl_nI (by omega)]
            rw [e1, nI_eq (by omega) (by omega)] at e3
            omega
          · have hne : ¬ sT_ T i 0 = nI u := fun z => by
              rw [← e3, e1, e2, nI_eq (by omega) (by omega)] at z
              omega
            rw [if_neg hne, e1, cl_nI (by omega)]
            rw [e2, nI_eq (by omega) (by omega)] at e3
            omega
        have hcu : ∀ c, 1 ≤ c ∧ c ≤ 80 ∧ cost_ (sT_ T i) x = nI c → c = c0 := fun c hc => by
          have := hc.2.2
          rw [ec, nI_eq (by omega) (by omega)] at this
          exact this.symm
        rcases k2 with ⟨q, rfl⟩ | ⟨q, rfl⟩
        · refine ⟨so_up g2 ET_ed (ET_oc I hi hu he ⟨c1, c2, ec⟩ hop q), fun v => ?_, ?_, fun j c hj h1 h2 h3 => ?_⟩
          · by_cases ev : v = oc_ T (nI u) i
            · rw [ev, va_up_self]
              have := g3 (oc_ T (nI u) i)
              omega
            · rw [va_up_ne _ _ ev]
              exact g3 v
          · rw [va_up_ne _ _ (fun z => hvu z.symm)]
            exact g4
          · by_cases ev : oc_ T (nI u) j = oc_ T (nI u) i
            · rw [ev, va_up_self]
              by_cases ej : j = i
              · subst ej
                have := hcu c h3
                omega
              · have := g5 j c (by omega) h1 h2 h3
                rw [ev] at this
                omega
            · rw [va_up_ne _ _ ev]
              by_cases ej : j = i
              · subst ej
                exact absurd rfl ev
              · exact g5 j c (by omega) h1 h2 h3
        · refine ⟨g2, g3, g4, fun j c hj h1 h2 h3 => ?_⟩
          by_cases ej : j = i
          · subst ej
            exact absurd h2 q
          · exact g5 j c (by omega) h1 h2 h3
    · refine ⟨yv_ l (yr_ y 1 f) h, ?_, f, r1, rfl, g1, g2, g3, g4, fun j c hj h1 => ?_⟩
      · simp only [Y_n D R, Option.bind_some]
        rw [if_neg (nI_ge hi (by omega))]
        simp only [Y_r2 D, Option.bind_some, Y_aS D R hi, Y_is D R hi, Y_E D R hi, kj_l0, bI_n, he, not_false_eq_true, if_true, kj_i1, nI_add]
        simp
      · by_cases ej : j = i
        · subst ej
          exact absurd h1 he
        · exact g5 j c (by omega) h1) n 0 (yv_ l y h) 1000 (by omega) ⟨y 1, r, by rw [yr_id], hr, hso, fun _ => Nat.le_refl _, rfl, fun j c hj => by omega⟩ (by omega)
  obtain ⟨f, r1, rfl, g1, g2, g3, g4, g5⟩ := hp
  refine ⟨f, r1, ?_, g1, g2, g3, fun v c hE => ?_⟩
  · rw [show ki 0 = nI 0 from rfl, e, show 1000 - n = (999 - n) + 1 from by omega, F_X4_goOnFrom_L3, Y_n D R, Option.bind_some, if_pos (Int32.le_refl _), Option.bind_some]
  · obtain ⟨j, hj, h1, h2, h3, h4, h5⟩ := ET_inv I hE
    rw [← h2] at h5 ⊢
    exact g5 j c hj h1 h5 h3
/-- what is done, as booleans -/
def bv_ (f : Nat → Int32) (D : Nat → Bool) : Prop := ∀ v, v < 8 → f v = bI_ (D v = true)
def ct_ (D : Nat → Bool) : Nat → Nat
  | 0 => 0
  | m + 1 => ct_ D m + (if D m then 1 else 0)
theorem ct_le {D : Nat → Bool} : ∀ {m : Nat}, ct_ D m ≤ m
  | 0 => Nat.le_refl _
  | m + 1 => by
    have := ct_le (D := D) (m := m)
    unfold ct_
    split <;> omega
theorem ct_all {D : Nat → Bool} : ∀ {m : Nat}, ct_ D m = m → ∀ v, v < m → D v = true
  | 0, _, v, hv => by omega
  | m + 1, h, v, hv => by
    have h1 := ct_le (D := D) (m := m)
    unfold ct_ at h
    by_cases q : D m = true
    · rw [if_pos q] at h
      by_cases e : v = m
      · rw [e]
        exact q
      · exact ct_all (m := m) (by omega) v (by omega)
    · rw [if_neg q] at h
      omega
theorem ct_ne {D : Nat → Bool} {x : Nat} : ∀ {m : Nat}, m ≤ x → ct_ (va_up D x true) m = ct_ D m
  | 0, _ => rfl
  | m + 1, h => by
    show ct_ (va_up D x true) m + _ = ct_ D m + _
    rw [ct_ne (by omega), va_up_ne _ _ (by omega)]
theorem ct_up {D : Nat → Bool} {x : Nat} : ∀ {m : Nat}, x < m → D x = false → ct_ (va_up D x true) m = ct_ D m + 1
  | 0, h, _ => by omega
  | m + 1, h, hf => by
    show ct_ (va_up D x true) m + _ = ct_ D m + _ + 1
    by_cases e : x = m
    · subst e
      rw [ct_ne (Nat.le_refl _), va_up_self, hf]
      rfl
    · rw [ct_up (by omega) hf, va_up_ne _ _ (by omega)]
      omega
theorem w_near (D : Dy_ l l2 g w h) (hr : rv_ (y 1) r) {B : Nat → Bool} (hB : bv_ (y 2) B) : (F_X4_nearestToDo (yv_ l y h) (l 0) = some m1_ ∧ ∀ v, v < 8 → ¬ B v = true → 1000000 ≤ r v) ∨ ∃ u, u < 8 ∧ F_X4_nearestToDo (yv_ l y h) (l 0) = some (nI u) ∧ ¬ B u = true ∧ r u < 1000000 ∧ ∀ v, v < 8 → ¬ B v = true → r u ≤ r v := by
  unfold F_X4_nearestToDo
  obtain ⟨⟨z1, z2⟩, e, hp⟩ := lp_ (n := 8) (f := fun m i (z : Int32 × Int32) => F_X4_nearestToDo_L7 (yv_ l y h) m (l 0) z.1 z.2 (nI i)) (P := fun i z => (z = (m1_, nI 1000000) ∧ ∀ v, v < i → ¬ B v = true → 1000000 ≤ r v) ∨ ∃ u, u < i ∧ u < 8 ∧ z = (nI u, nI (r u)) ∧ ¬ B u = true ∧ r u < 1000000 ∧ ∀ v, v < i → ¬ B v = true → r u ≤ r v) (fun m i z hi hp => by
    obtain ⟨ei, bi⟩ := hr i hi
    have hb := hB i hi
    have hstep : ∀ t : Int32 × Int32, F_X4_nearestToDo_L7 (yv_ l y h) (m + 1) (l 0) t.1 t.2 (nI i) = if ¬ B i = true then (if t.2 ≤ nI (r i) then F_X4_nearestToDo_L7 (yv_ l y h) m (l 0) t.1 t.2 (nI (i + 1)) else F_X4_nearestToDo_L7 (yv_ l y h) m (l 0) (nI i) (nI (r i)) (nI (i + 1))) else F_X4_nearestToDo_L7 (yv_ l y h) m (l 0) t.1 t.2 (nI (i + 1)) := by
      intro t
      rw [F_X4_nearestToDo_L7, kk_b8, if_neg (nI_ge hi (by decide))]
      simp only [yv_r1 D.1, yv_r0 D.1, Option.bind_some, yv_aB D.1 hi, yv_aI D.1 (.inl rfl) hi, hb, ei, kj_l0, ne_eq, bI_n, kj_i1, nI_add]
      by_cases q : B i = true <;> simp [q]
    rw [hstep]
    by_cases q : B i = true
    · rw [if_neg (fun z => z q)]
      refine ⟨z, rfl, ?_⟩
      rcases hp with ⟨e1, h1⟩ | ⟨u, h1, h2, e1, h3, h4, h5⟩
      · refine .inl ⟨e1, fun v hv hb => ?_⟩
        by_cases ev : v = i
        · exact absurd (ev ▸ q) hb
        · exact h1 v (by omega) hb
      · refine .inr ⟨u, by omega, h2, e1, h3, h4, fun v hv hb => ?_⟩
        by_cases ev : v = i
        · exact absurd (ev ▸ q) hb
        · exact h5 v (by omega) hb
    · rw [if_pos q]
      rcases hp with ⟨e1, h1⟩ | ⟨u, h1, h2, e1, h3, h4, h5⟩
      · subst e1
        dsimp only
        by_cases hc : 1000000 ≤ r i
        · rw [if_pos (nI_le hc (by omega))]
          refine ⟨(m1_, nI 1000000), rfl, .inl ⟨rfl, fun v hv hb => ?_⟩⟩
          by_cases ev : v = i
          · rw [ev]
            exact hc
          · exact h1 v (by omega) hb
        · rw [if_neg (nI_ge (by omega) (by decide))]
          refine ⟨(nI i, nI (r i)), rfl, .inr ⟨i, by omega, hi, rfl, q, by omega, fun v hv hb => ?_⟩⟩
          by_cases ev : v = i
          · rw [ev]
            exact Nat.le_refl _
          · have := h1 v (by omega) hb
            omega
      · subst e1
        dsimp only
        by_cases hc : r u ≤ r i
        · rw [if_pos (nI_le hc (by omega))]
          refine ⟨(nI u, nI (r u)), rfl, .inr ⟨u, by omega, h2, rfl, h3, h4, fun v hv hb => ?_⟩⟩
          by_cases ev : v = i
          · rw [ev]
            exact hc
          · exact h5 v (by omega) hb
        · rw [if_neg (nI_ge (by omega) (by omega))]
          refine ⟨(nI i, nI (r i)), rfl, .inr ⟨i, by omega, hi, rfl, q, by omega, fun v hv hb => ?_⟩⟩
          by_cases ev : v = i
          · rw [ev]
            exact Nat.le_refl _
          · have := h5 v (by omega) hb
            omega) 8 0 (m1_, nI 1000000) 1000 (by omega) (.inl ⟨rfl, fun v hv => by omega⟩) (by omega)
  dsimp only at e
  have e2 : F_X4_nearestToDo_L7 (yv_ l y h) 1000 (l 0) (ki (-1)) (nI 1000000) (ki 0) = some z1 := by
    rw [kk_m2, show ki 0 = nI 0 from rfl, e, show 1000 - 8 = 991 + 1 from rfl, F_X4_nearestToDo_L7, kk_b8, if_pos (Int32.le_refl _)]
  rw [e2, Option.bind_some]
  rcases hp with ⟨e1, h1⟩ | ⟨u, h1, h2, e1, h3, h4, h5⟩
  · cases e1
    exact .inl ⟨rfl, h1⟩
  · cases e1
    exact .inr ⟨u, h2, rfl, h3, h4, h5⟩
end DJ

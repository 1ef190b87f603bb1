/-! over more and more: the table of the class -/
section FW
variable {l l2 g : Nat → Nat} {w y : Nat → Nat → Int32} {h : mm_S} {a i j k b n u v c s : Nat} {T : Nat → Int32} {x : Int32} {r d : Nat → Nat}
/-- the table, as naturals -/
def tb_ (y : Nat → Nat → Int32) (t : Nat → Nat → Nat) : Prop := ∀ i, i < 8 → rv_ (y (i + 5)) (t i)
/-- only the table differs -/
def ty_ (y y' : Nat → Nat → Int32) : Prop := ∀ a, ¬ (5 ≤ a ∧ a < 13) → y' a = y a
/-- each entry is that of a walk, or far -/
def ts_ (E : Nat → Nat → Nat → Prop) (t : Nat → Nat → Nat) : Prop := ∀ i, i < 8 → so_ E i (t i)
theorem ri_t (hi : i < 8) : ri_ (i + 5) := .inr (.inr ⟨by omega, by omega⟩)
theorem tb_up {y : Nat → Nat → Int32} {t : Nat → Nat → Nat} (h : tb_ y t) (hi : i < 8) {m : Nat} (hm : m ≤ 1000000) : tb_ (yr_ y (i + 5) (upd (y (i + 5)) j (nI m))) (fun p => if p = i then va_up (t i) j m else t p) := by
  intro p hp
  show rv_ _ (if p = i then va_up (t i) j m else t p)
  by_cases e : p = i
  · subst e
    rw [if_pos rfl, yr_at]
    exact rv_up (h p hp) hm
  · rw [if_neg e, yr_ne (by omega)]
    exact h p hp
theorem ty_up {y y' : Nat → Nat → Int32} (h : ty_ y y') (hi : i < 8) {f : Nat → Int32} : ty_ y (yr_ y' (i + 5) f) := by
  intro a ha
  rw [yr_ne (by omega)]
  exact h a ha
theorem w_t1 (D : Dy_ l l2 g w h) (hi : i < 8) : ∃ f, F_X4_goOverMoreAndMore_L10 1000 (l 0) (l2 0) (nI i) (nI 0) (yv_ l y h) = some (yv_ l (yr_ y (i + 5) f) h) ∧ rv_ f (va_up (fun _ => 1000000) i 0) := by
  obtain ⟨x2, e, hp⟩ := lp_ (n := 8) (f := fun m k (q : mm_S) => F_X4_goOverMoreAndMore_L10 m (l 0) (l2 0) (nI i) (nI k) q) (P := fun k q => ∃ f, q = yv_ l (yr_ y (i + 5) f) h ∧ ∀ v, v < k → f v = nI (va_up (fun _ => 1000000) i 0 v)) (fun m k q hk hp => by
    obtain ⟨f, rfl, h1⟩ := hp
    rw [F_X4_goOverMoreAndMore_L10, kk_b8, if_neg (nI_ge hk (by decide)), yv_r3 D.1, Option.bind_some, yv_aR D.1 hi, Option.bind_some]
    by_cases e : i = k
    · subst e
      refine ⟨_, ?_, upd f i (nI 0), rfl, fun v hv => ?_⟩
      · rw [if_neg (fun q => q rfl), kj_i0, yv_sI D.1 (ri_t hi) hi, Option.bind_some, nI_s, yr_at, yr_yr]
      · by_cases ev : v = i
        · rw [ev, pk_us, va_up_self]
        · rw [pk_un ev]
          exact h1 v (by omega)
    · refine ⟨_, ?_, upd f k (nI 1000000), rfl, fun v hv => ?_⟩
      · rw [if_pos (fun q => e ((nI_eq (by omega) (by omega)).mp q)), yv_sI D.1 (ri_t hi) hk, Option.bind_some, nI_s, yr_at, yr_yr]
      · by_cases ev : v = k
        · rw [ev, pk_us, va_up_ne _ _ (fun q => e q.symm)]
        · rw [pk_un ev]
          exact h1 v (by omega)) 8 0 (yv_ l y h) 1000 (by omega) ⟨y (i + 5), by rw [yr_id], fun v hv => by omega⟩ (by omega)
  obtain ⟨f, rfl, h1⟩ := hp
  refine ⟨f, ?_, fun v hv => ⟨h1 v hv, ?_⟩⟩
  · rw [e, show 1000 - 8 = 991 + 1 from rfl, F_X4_goOverMoreAndMore_L10, kk_b8, if_pos (Int32.le_refl _)]
  · by_cases ev : v = i
    · rw [ev, va_up_self]
      exact Nat.zero_le _
    · rw [va_up_ne _ _ ev]
      exact Nat.le_refl _
theorem w_t2 (D : Dy_ l l2 g w h) : ∃ y', F_X4_goOverMoreAndMore_L2 1000 (l 0) (l2 0) (nI 0) (yv_ l y h) = some (yv_ l y' h) ∧ ty_ y y' ∧ tb_ y' (fun i => va_up (fun _ => 1000000) i 0) := by
  obtain ⟨x2, e, hp⟩ := lp_ (n := 8) (f := fun m k (q : mm_S) => F_X4_goOverMoreAndMore_L2 m (l 0) (l2 0) (nI k) q) (P := fun k q => ∃ y', q = yv_ l y' h ∧ ty_ y y' ∧ ∀ i, i < k → rv_ (y' (i + 5)) (va_up (fun _ => 1000000) i 0)) (fun m k q hk hp => by
    obtain ⟨y', rfl, h1, h2⟩ := hp
    obtain ⟨f, e, h3⟩ := w_t1 (y := y') D hk
    refine ⟨_, ?_, yr_ y' (k + 5) f, rfl, ty_up h1 hk, fun i hi => ?_⟩
    · rw [F_X4_goOverMoreAndMore_L2, kk_b8, if_neg (nI_ge hk (by decide)), kj_i0, e, Option.bind_some, nI_s]
    · by_cases ei : i = k
      · rw [ei, yr_at]
        exact h3
      · rw [yr_ne (by omega)]
        exact h2 i (by omega)) 8 0 (yv_ l y h) 1000 (by omega) ⟨y, rfl, fun _ _ => rfl, fun i hi => by omega⟩ (by omega)
  obtain ⟨y', rfl, h1, h2⟩ := hp
  refine ⟨y', ?_, h1, h2⟩
  rw [e, show 1000 - 8 = 991 + 1 from rfl, F_X4_goOverMoreAndMore_L2, kk_b8, if_pos (Int32.le_refl _)]
/-- the staircases are put into the table -/
theorem w_t3 (D : Dy_ l l2 g w h) (R : R_ g w T n) (I : I_ T n) (ht : tb_ y (fun i => va_up (fun _ => 1000000) i 0)) : ∃ y' t, F_X4_goOverMoreAndMore_L49 1000 (l 0) (l2 0) (nI 0) (yv_ l y h) = some (yv_ l y' h) ∧ ty_ y y' ∧ tb_ y' t ∧ ts_ (ET_ T n m1_) t ∧ (∀ i, i < 8 → t i i = 0) ∧ ∀ u v c, ET_ T n m1_ u v c → t u v = c := by
  have hn := R_n R
  obtain ⟨x2, e, hp⟩ := lp_ (n := n) (f := fun m k (q : mm_S) => F_X4_goOverMoreAndMore_L49 m (l 0) (l2 0) (nI k) q) (P := fun k q => ∃ y' t, q = yv_ l y' h ∧ ty_ y y' ∧ tb_ y' t ∧ ts_ (ET_ T n m1_) t ∧ (∀ i, i < 8 → t i i = 0) ∧ ∀ j u v c, j < k → u < 8 → v < 8 → (1 ≤ c ∧ c ≤ 80 ∧ sT_ T j 2 = nI c) → ((sT_ T j 0 = nI u ∧ sT_ T j 1 = nI v) ∨ (sT_ T j 0 = nI v ∧ sT_ T j 1 = nI u)) → t u v = c) (fun m k q hk hp => by
    obtain ⟨y', t, rfl, h1, h2, h3, h4, h5⟩ := hp
    obtain ⟨p, q, hpq, hq, e1, e2⟩ := St_lo (I.2.2.2.2.1 k hk)
    obtain ⟨-, ⟨c, c1, c2, ec⟩, -⟩ := I.2.2.2.2.1 k hk
    have hp8 : p < 8 := by omega
    have hEd : ∀ u v, u < 8 → v < 8 → ((sT_ T k 0 = nI u ∧ sT_ T k 1 = nI v) ∨ (sT_ T k 0 = nI v ∧ sT_ T k 1 = nI u)) → ET_ T n m1_ u v c := fun u v hu hv hx => ⟨k, hk, hu, hv, c1, by omega, by unfold cost_; rw [if_pos (.inl rfl)]; exact ec, hx, .inl rfl, .inl rfl⟩
    have s1 := tb_up (j := q) h2 hp8 (show c ≤ 1000000 by omega)
    have s2 := tb_up (j := p) s1 hq (show c ≤ 1000000 by omega)
    refine ⟨_, ?_, _, _, rfl, ty_up (ty_up h1 hp8) hq, s2, ?_, ?_, ?_⟩
    · rw [F_X4_goOverMoreAndMore_L49, Y_n D R, Option.bind_some, if_neg (nI_ge hk (by omega)), Y_r2 D, Option.bind_some, Y_aS D R hk, Option.bind_some, yv_r3 D.1, Option.bind_some, Y_S D R hk (by decide), Option.bind_some, e1, yv_aR D.1 hp8, Option.bind_some, Y_S D R hk (by decide), Option.bind_some, e2, Y_S D R hk (by decide), Option.bind_some, ec, yv_sI D.1 (ri_t hp8) hq, Option.bind_some, yv_r3 D.1, Option.bind_some, Y_S D R hk (by decide), Option.bind_some, e2, yv_aR D.1 hq, Option.bind_some, Y_S D R hk (by decide), Option.bind_some, e1, Y_S D R hk (by decide), Option.bind_some, ec, yv_sI D.1 (ri_t hq) hp8, Option.bind_some, nI_s]
    · intro i hi v hv
      by_cases ei : i = q
      · subst ei
        try dsimp only
        rw [if_pos rfl, if_neg (by omega)]
        by_cases ev : v = p
        · rw [ev, va_up_self]
          exact .inr ⟨by omega, 1, i, 0, c, ⟨rfl, rfl⟩, hEd i p hq hp8 (.inr ⟨e1, e2⟩), by omega⟩
        · rw [va_up_ne _ _ ev]
          exact h3 i hi v hv
      · dsimp only
        rw [if_neg ei]
        by_cases ei2 : i = p
        · subst ei2
          rw [if_pos rfl]
          by_cases ev : v = q
          · rw [ev, va_up_self]
            exact .inr ⟨by omega, 1, i, 0, c, ⟨rfl, rfl⟩, hEd i q hp8 hq (.inl ⟨e1, e2⟩), by omega⟩
          · rw [va_up_ne _ _ ev]
            exact h3 i hi v hv
        · rw [if_neg ei2]
          exact h3 i hi v hv
    · intro i hi
      try dsimp only
      by_cases ei : i = q
      · subst ei
        rw [if_pos rfl, if_neg (by omega), va_up_ne _ _ (by omega)]
        exact h4 i hi
      · rw [if_neg ei]
        by_cases ei2 : i = p
        · subst ei2
          rw [if_pos rfl, va_up_ne _ _ (by omega)]
          exact h4 i hi
        · rw [if_neg ei2]
          exact h4 i hi
    · intro j u v c' hj hu hv hc hx
      try dsimp only
      by_cases ej : j = k
      · subst ej
        have hcc : c' = c := by
          have := hc.2.2
          rw [ec, nI_eq (by omega) (by omega)] at this
          exact this.symm
        rw [e1, e2, nI_eq (by omega) (by omega), nI_eq (by omega) (by omega), nI_eq (by omega) (by omega), nI_eq (by omega) (by omega)] at hx
        rcases hx with ⟨rfl, rfl⟩ | ⟨rfl, rfl⟩
        · rw [if_neg (by omega), if_pos rfl, va_up_self, hcc]
        · rw [if_pos rfl, va_up_self, hcc]
      · have h6 := h5 j u v c' (by omega) hu hv hc hx
        have hne : ¬ ((sT_ T k 0 = nI u ∧ sT_ T k 1 = nI v) ∨ (sT_ T k 0 = nI v ∧ sT_ T k 1 = nI u)) := by
          intro hz
          obtain ⟨p2, q2, hpq2, hq2, f1, f2⟩ := St_lo (I.2.2.2.2.1 j (by omega))
          apply I.2.2.2.2.2.1 j k (by omega) hk
          rw [f1, f2, nI_eq (by omega) (by omega), nI_eq (by omega) (by omega), nI_eq (by omega) (by omega), nI_eq (by omega) (by omega)] at hx
          rw [e1, e2, nI_eq (by omega) (by omega), nI_eq (by omega) (by omega), nI_eq (by omega) (by omega), nI_eq (by omega) (by omega)] at hz
          rw [f1, f2, e1, e2, nI_eq (by omega) (by omega), nI_eq (by omega) (by omega)]
          omega
        rw [e1, e2, nI_eq (by omega) (by omega), nI_eq (by omega) (by omega), nI_eq (by omega) (by omega), nI_eq (by omega) (by omega)] at hne
        by_cases eu : u = q
        · subst eu
          rw [if_pos rfl, if_neg (by omega), va_up_ne _ _ (fun z => hne (.inr ⟨z.symm, rfl⟩))]
          exact h6
        · rw [if_neg eu]
          by_cases eu2 : u = p
          · subst eu2
            rw [if_pos rfl, va_up_ne _ _ (fun z => hne (.inl ⟨rfl, z.symm⟩))]
            exact h6
          · rw [if_neg eu2]
            exact h6) n 0 (yv_ l y h) 1000 (by omega) ⟨y, _, rfl, fun _ _ => rfl, ht, fun i hi v hv => by
      try dsimp only
      by_cases ev : v = i
      · rw [ev, va_up_self]
        exact .inr ⟨by decide, 0, rfl, rfl⟩
      · rw [va_up_ne _ _ ev]
        exact .inl rfl, fun i hi => va_up_self _ _ _, fun j u v c hj => by omega⟩ (by omega)
  obtain ⟨y', t, rfl, h1, h2, h3, h4, h5⟩ := hp
  refine ⟨y', t, ?_, h1, h2, h3, h4, ?_⟩
  · rw [e, show 1000 - n = (999 - n) + 1 from by omega, F_X4_goOverMoreAndMore_L49, Y_n D R, Option.bind_some, if_pos (Int32.le_refl _)]
  · rintro u v c ⟨j, hj, hu, hv, c1, c2, c3, h6, -, -⟩
    unfold cost_ at c3
    rw [if_pos (.inl rfl)] at c3
    exact h5 j u v c hj hu hv ⟨c1, c2, c3⟩ h6
/-- one landing more may be gone over: for one row -/
theorem w_a1 (D : Dy_ l l2 g w h) {E : Nat → Nat → Nat → Prop} (hk : k < 8) (hi : i < 8) {t : Nat → Nat → Nat} (ht : tb_ y t) (hs : ts_ E t) : ∃ y' t', F_X4_allowOver_L10 1000 (l 0) (nI k) (nI i) (nI 0) (yv_ l y h) = some (yv_ l y' h) ∧ ty_ y y' ∧ tb_ y' t' ∧ ts_ E t' ∧ (∀ p v, t' p v ≤ t p v) ∧ ∀ v, v < 8 → t' i v ≤ t i k + t k v := by
  obtain ⟨x2, e, hp⟩ := lp_ (n := 8) (f := fun m j (q : mm_S) => F_X4_allowOver_L10 m (l 0) (nI k) (nI i) (nI j) q) (P := fun j q => ∃ y' t', q = yv_ l y' h ∧ ty_ y y' ∧ tb_ y' t' ∧ ts_ E t' ∧ (∀ p v, t' p v ≤ t p v) ∧ ∀ v, v < j → t' i v ≤ t i k + t k v) (fun m j q hj hp => by
    obtain ⟨y', t', rfl, h1, h2, h3, h4, h5⟩ := hp
    obtain ⟨e1, b1⟩ := h2 i hi k hk
    obtain ⟨e2, b2⟩ := h2 k hk j hj
    obtain ⟨e3, b3⟩ := h2 i hi j hj
    obtain ⟨em, bm⟩ := mn_n b3 b1 b2
    have s1 := tb_up (j := j) h2 hi bm
    refine ⟨_, ?_, _, _, rfl, ty_up h1 hi, s1, ?_, ?_, ?_⟩
    · rw [F_X4_allowOver_L10, kk_b8, if_neg (nI_ge hj (by decide))]
      simp only [yv_r3 D.1, Option.bind_some, yv_aR D.1 hi, yv_aR D.1 hk, yv_aI D.1 (ri_t hi) hk, yv_aI D.1 (ri_t hk) hj, yv_aI D.1 (ri_t hi) hj, e1, e2, e3, yv_sI D.1 (ri_t hi) hj]
      rw [em, nI_s]
    · intro p hp v hv
      by_cases ep : p = i
      · subst ep
        try dsimp only
        rw [if_pos rfl]
        by_cases ev : v = j
        · subst ev
          rw [va_up_self]
          by_cases q : t' p v ≤ t' p k + t' k v
          · rw [Nat.min_eq_left q]
            exact h3 p hp v hv
          · rw [Nat.min_eq_right (by omega)]
            rcases h3 p hp k hk with a | ⟨a, m1, w1⟩
            · omega
            · rcases h3 k hk v hv with a2 | ⟨a2, m2, w2⟩
              · omega
              · exact .inr ⟨by omega, wk_cat (t := 0) w1 w2⟩
        · rw [va_up_ne _ _ ev]
          exact h3 p hp v hv
      · dsimp only
        rw [if_neg ep]
        exact h3 p hp v hv
    · intro p v
      try dsimp only
      by_cases ep : p = i
      · subst ep
        rw [if_pos rfl]
        by_cases ev : v = j
        · subst ev
          rw [va_up_self]
          have := h4 p v
          omega
        · rw [va_up_ne _ _ ev]
          exact h4 p v
      · rw [if_neg ep]
        exact h4 p v
    · intro v hv
      try dsimp only
      rw [if_pos rfl]
      by_cases ev : v = j
      · subst ev
        rw [va_up_self]
        have := h4 i k
        have := h4 k v
        omega
      · rw [va_up_ne _ _ ev]
        exact h5 v (by omega)) 8 0 (yv_ l y h) 1000 (by omega) ⟨y, t, rfl, fun _ _ => rfl, ht, hs, fun _ _ => Nat.le_refl _, fun v hv => by omega⟩ (by omega)
  obtain ⟨y', t', rfl, h1, h2, h3, h4, h5⟩ := hp
  refine ⟨y', t', ?_, h1, h2, h3, h4, h5⟩
  rw [e, show 1000 - 8 = 991 + 1 from rfl, F_X4_allowOver_L10, kk_b8, if_pos (Int32.le_refl _)]
theorem ty_tr {y y' y'' : Nat → Nat → Int32} (h1 : ty_ y y') (h2 : ty_ y' y'') : ty_ y y'' := fun a ha => (h2 a ha).trans (h1 a ha)
theorem w_a2 (D : Dy_ l l2 g w h) {E : Nat → Nat → Nat → Prop} (hk : k < 8) {t : Nat → Nat → Nat} (ht : tb_ y t) (hs : ts_ E t) : ∃ y' t', F_X4_allowOver (yv_ l y h) (l 0) (nI k) = some (yv_ l y' h) ∧ ty_ y y' ∧ tb_ y' t' ∧ ts_ E t' ∧ (∀ p v, t' p v ≤ t p v) ∧ ∀ i v, i < 8 → v < 8 → t' i v ≤ t i k + t k v := by
  unfold F_X4_allowOver
  obtain ⟨x2, e, hp⟩ := lp_ (n := 8) (f := fun m i (q : mm_S) => F_X4_allowOver_L2 m (l 0) (nI k) (nI i) q) (P := fun i q => ∃ y' t', q = yv_ l y' h ∧ ty_ y y' ∧ tb_ y' t' ∧ ts_ E t' ∧ (∀ p v, t' p v ≤ t p v) ∧ ∀ p v, p < i → v < 8 → t' p v ≤ t p k + t k v) (fun m i q hi hp => by
    obtain ⟨y', t', rfl, h1, h2, h3, h4, h5⟩ := hp
    obtain ⟨y2, t2, e, k1, k2, k3, k4, k5⟩ := w_a1 (y := y') D hk hi h2 h3
    refine ⟨_, ?_, y2, t2, rfl, ty_tr h1 k1, k2, k3, fun p v => Nat.le_trans (k4 p v) (h4 p v), fun p v hp hv => ?_⟩
    · rw [F_X4_allowOver_L2, kk_b8, if_neg (nI_ge hi (by decide)), kj_i0, e, Option.bind_some, nI_s]
    · by_cases ep : p = i
      · subst ep
        have := k5 v hv
        have := h4 p k
        have := h4 k v
        omega
      · exact Nat.le_trans (k4 p v) (h5 p v (by omega) hv)) 8 0 (yv_ l y h) 1000 (by omega) ⟨y, t, rfl, fun _ _ => rfl, ht, hs, fun _ _ => Nat.le_refl _, fun p v hp => by omega⟩ (by omega)
  obtain ⟨y', t', rfl, h1, h2, h3, h4, h5⟩ := hp
  refine ⟨y', t', ?_, h1, h2, h3, h4, h5⟩
  rw [show ki 0 = nI 0 from rfl, e, show 1000 - 8 = 991 + 1 from rfl, F_X4_allowOver_L2, kk_b8, if_pos (Int32.le_refl _), Option.bind_some]
theorem w_floyd (D : Dy_ l l2 g w h) (R : R_ g w T n) (I : I_ T n) : ∃ y', F_X4_goOverMoreAndMore (yv_ l y h) (l 0) (l2 0) = some (yv_ l y' h) ∧ ty_ y y' ∧ ∀ s d, s < 8 → gd_ (ET_ T n m1_) s d → ∀ v, v < 8 → y' (s + 5) v = nI (d v) := by
  obtain ⟨y1, a1, a2, a3⟩ := w_t2 (y := y) D
  obtain ⟨y2, t, b1, b2, b3, b4, b5, b6⟩ := w_t3 (y := y1) D R I a3
  obtain ⟨x2, e, hp⟩ := lp_ (n := 8) (f := fun m k (q : mm_S) => F_X4_goOverMoreAndMore_L108 m (l 0) (nI k) q) (P := fun k q => ∃ y' t', q = yv_ l y' h ∧ ty_ y y' ∧ tb_ y' t' ∧ ts_ (ET_ T n m1_) t' ∧ ∀ i j x, i < 8 → j < 8 → Q_ (ET_ T n m1_) k i j x → t' i j ≤ x) (fun m k q hk hp => by
    obtain ⟨y', t', rfl, h1, h2, h3, h4⟩ := hp
    obtain ⟨y3, t3, e, k1, k2, k3, k4, k5⟩ := w_a2 (y := y') D hk h2 h3
    refine ⟨_, ?_, y3, t3, rfl, ty_tr h1 k1, k2, k3, fun i j x hi hj hq => ?_⟩
    · rw [F_X4_goOverMoreAndMore_L108, kk_b8, if_neg (nI_ge hk (by decide)), yv_is D.1, Option.bind_some, e, Option.bind_some, nI_s]
    · rcases hq with hq | ⟨p, q, q1, q2, q3⟩
      · exact Nat.le_trans (k4 i j) (h4 i j x hi hj hq)
      · have := k5 i j hi hj
        have := h4 i k p hi hk q1
        have := h4 k j q hk hj q2
        omega) 8 0 (yv_ l y2 h) 1000 (by omega) ⟨y2, t, rfl, ty_tr a2 b2, b3, b4, fun i j x hi hj hq => by
      rcases hq with ⟨rfl, rfl⟩ | hq
      · rw [b5 i hi]
        exact Nat.le_refl _
      · rw [b6 i j x hq]
        exact Nat.le_refl _⟩ (by omega)
  obtain ⟨y', t', rfl, h1, h2, h3, h4⟩ := hp
  refine ⟨y', ?_, h1, fun s d hs hd v hv => ?_⟩
  · unfold F_X4_goOverMoreAndMore
    rw [show ki 0 = nI 0 from rfl, a1, Option.bind_some, b1, Option.bind_some, e, show 1000 - 8 = 991 + 1 from rfl, F_X4_goOverMoreAndMore_L108, kk_b8, if_pos (Int32.le_refl _), Option.bind_some]
  · rw [(h2 s hs v hv).1, so_eq hd (h3 s hs) (fun v hv hf => ?_) hv]
    rcases hd.2.2 v hv with a | ⟨a, k, wk⟩
    · omega
    · obtain ⟨x2, hx, hq⟩ := Q_wk ET_ed wk
      exact Nat.le_trans (h4 s v x2 hs hv hq) hx
end FW

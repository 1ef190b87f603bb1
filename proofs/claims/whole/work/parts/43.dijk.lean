section DK
variable {l l2 g : Nat → Nat} {w y : Nat → Nat → Int32} {h : mm_S} {a i j k b n u v c s : Nat} {T : Nat → Int32} {x : Int32} {r d : Nat → Nat}
/-- rows one and two of the ways -/
def y2_ (y : Nat → Nat → Int32) (f f2 : Nat → Int32) : Nat → Nat → Int32 := yr_ (yr_ y 1 f) 2 f2
theorem y2_1 {f f2 : Nat → Int32} : y2_ y f f2 1 = f := by
  unfold y2_
  rw [yr_ne (by decide), yr_at]
theorem y2_2 {f f2 : Nat → Int32} : y2_ y f f2 2 = f2 := yr_at
theorem y2_a {f f2 : Nat → Int32} (h1 : a ≠ 1) (h2 : a ≠ 2) : y2_ y f f2 a = y a := by
  unfold y2_
  rw [yr_ne h2, yr_ne h1]
theorem y2_s1 {f f2 f3 : Nat → Int32} : yr_ (y2_ y f f2) 1 f3 = y2_ y f3 f2 := by
  unfold y2_
  rw [yr_c (by decide), yr_yr]
theorem y2_s2 {f f2 f3 : Nat → Int32} : yr_ (y2_ y f f2) 2 f3 = y2_ y f f3 := yr_yr
theorem y2_id : y2_ y (y 1) (y 2) = y := by
  unfold y2_
  rw [yr_id, yr_id]
theorem w_init (D : Dy_ l l2 g w h) (x z : Int32) : ∃ f f2, F_X4_goNearestFirst_L3 1000 (l 0) (l2 0) x z (nI 0) (yv_ l y h) = some (yv_ l (y2_ y f f2) h) ∧ (∀ v, v < 8 → f v = nI 1000000) ∧ ∀ v, v < 8 → f2 v = nI 0 := by
  obtain ⟨x2, e, hp⟩ := lp_ (n := 8) (f := fun m i (q : mm_S) => F_X4_goNearestFirst_L3 m (l 0) (l2 0) x z (nI i) q) (P := fun i q => ∃ f f2, q = yv_ l (y2_ y f f2) h ∧ (∀ v, v < i → f v = nI 1000000) ∧ ∀ v, v < i → f2 v = nI 0) (fun m i q hi hp => by
    obtain ⟨f, f2, rfl, h1, h2⟩ := hp
    refine ⟨_, ?_, upd f i (nI 1000000), upd f2 i (nI 0), rfl, fun v hv => ?_, fun v hv => ?_⟩
    · rw [F_X4_goNearestFirst_L3, kk_b8, if_neg (nI_ge hi (by decide)), yv_r0 D.1, Option.bind_some, yv_sI D.1 (.inl rfl) hi, Option.bind_some, yv_r1 D.1, Option.bind_some, kj_i0, yv_sB D.1 hi (by decide), Option.bind_some, nI_s, y2_s1, y2_s2, y2_1, y2_2]
    · by_cases ev : v = i
      · rw [ev, pk_us]
      · rw [pk_un ev]
        exact h1 v (by omega)
    · by_cases ev : v = i
      · rw [ev, pk_us]
      · rw [pk_un ev]
        exact h2 v (by omega)) 8 0 (yv_ l y h) 1000 (by omega) ⟨y 1, y 2, by rw [y2_id], fun v hv => by omega, fun v hv => by omega⟩ (by omega)
  obtain ⟨f, f2, rfl, h1, h2⟩ := hp
  refine ⟨f, f2, ?_, h1, h2⟩
  rw [e, show 1000 - 8 = 991 + 1 from rfl, F_X4_goNearestFirst_L3, kk_b8, if_pos (Int32.le_refl _)]
theorem so_op (hs : op_ T x s) {r : Nat → Nat} (hr : so_ (ET_ T n x) s r) (hv : v < 8) (hf : r v < 1000000) : op_ T x v := by
  rcases hr v hv with a | ⟨-, k, w⟩
  · omega
  · cases k with
    | zero => rw [w.1]; exact hs
    | succ k =>
      obtain ⟨u, y, c, h1, h2, h3⟩ := w
      obtain ⟨-, -, -, -, -, -, -, -, -, q⟩ := h2
      exact q
/-- the rounds: until all is done, or nothing is near -/
theorem w_rounds (D : Dy_ l l2 g w h) (R : R_ g w T n) (I : I_ T n) (hs8 : s < 8) (hs : op_ T x s) (hd : gd_ (ET_ T n x) s d) (hr : rv_ (y 1) r) (hso : so_ (ET_ T n x) s r) (hrs : r s = 0) (hB : ∀ v, v < 8 → y 2 v = nI 0) : ∃ f f2, F_X4_goNearestFirst_B49 (yv_ l y h) (l 0) (l2 0) x = some (yv_ l (y2_ y f f2) h) ∧ ∀ v, v < 8 → f v = nI (d v) := by
  unfold F_X4_goNearestFirst_B49
  have key := lp_x (n := 8) (f := fun m i (q : mm_S) => F_X4_goNearestFirst_L52 m (l 0) (l2 0) x (nI i) q) (P := fun i q => ∃ f f2 r B, q = yv_ l (y2_ y f f2) h ∧ rv_ f r ∧ bv_ f2 B ∧ ct_ B 8 = i ∧ dj_ (ET_ T n x) s d r (fun v => B v = true)) (E := fun o => ∃ f f2, o = .inl (yv_ l (y2_ y f f2) h) ∧ ∀ v, v < 8 → f v = nI (d v)) (fun m i q hi hp => by
    obtain ⟨f, f2, r, B, rfl, h1, h2, h3, h4⟩ := hp
    rw [F_X4_goNearestFirst_L52, kk_b8, if_neg (nI_ge hi (by decide)), yv_is D.1, Option.bind_some]
    rcases w_near (y := y2_ y f f2) D (by rw [y2_1]; exact h1) (by rw [y2_2]; exact h2) with ⟨e1, g1⟩ | ⟨u, hu, e1, g1, g2, g3⟩
    · left
      refine ⟨_, ?_, f, f2, rfl, fun v hv => ?_⟩
      · rw [e1, Option.bind_some, kk_m2, if_neg (fun q => q rfl)]
      · rw [(h1 v hv).1, dj_end hd ET_ed h4 hs8 g1 hv]
    · right
      have hru := dj_near hd ET_ed h4 hs8 hu g2 g1 g3
      have hop := so_op hs h4.1 hu g2
      have hm1 : ¬ nI u = m1_ := fun q => absurd (congrArg Int32.toInt q) (by rw [nI_toInt (by omega)]; show ¬ (u : Int) = -1; omega)
      obtain ⟨f3, r3, e3, k1, k2, k3, k4⟩ := w_from (y := y2_ y f (upd f2 u (nI 1))) (r := r) D R I hu hop (by rw [y2_1]; exact h1) h4.1
      have hBf : B u = false := by simpa using g1
      refine ⟨yv_ l (y2_ y f3 (upd f2 u (nI 1))) h, ?_, f3, upd f2 u (nI 1), r3, va_up B u true, rfl, k1, ?_, ?_, ?_⟩
      · rw [e1, Option.bind_some, kk_m2, if_pos hm1, yv_r1 D.1, Option.bind_some, kj_i1, yv_sB D.1 hu (by decide), Option.bind_some, y2_2, y2_s2, yv_is D.1, Option.bind_some, e3, Option.bind_some, y2_s1, nI_add]
      · intro v hv
        by_cases ev : v = u
        · rw [ev, pk_us, va_up_self]
          rfl
        · rw [pk_un ev, va_up_ne _ _ ev]
          exact h2 v hv
      · rw [ct_up hu hBf, h3]
      · have := dj_step hd h4 hu hru k2 (fun v _ => k3 v) hs8 ET_ed k4
        obtain ⟨a1, a2, a3, a4⟩ := this
        have hB2 : ∀ v, va_up B u true v = true → (B v = true ∨ v = u) := fun v q => by
          by_cases ev : v = u
          · exact .inr ev
          · rw [va_up_ne _ _ ev] at q
            exact .inl q
        exact ⟨a1, a2, fun v hv q => a3 v hv (hB2 v q), fun p v c q hE => a4 p v c (hB2 p q) hE⟩) 8 0 (yv_ l y h) 1000 (by omega) ⟨y 1, y 2, r, fun _ => false, by rw [y2_id], hr, fun v hv => by rw [hB v hv]; rfl, rfl, hso, hrs, fun v hv q => (by cases q), fun u v c q => (by cases q)⟩ (by omega)
  rcases key with ⟨o, e, f, f2, rfl, h1⟩ | ⟨q, e, f, f2, r, B, rfl, h1, h2, h3, h4⟩
  · refine ⟨f, f2, ?_, h1⟩
    rw [show ki 0 = nI 0 from rfl, e]
    rfl
  · refine ⟨f, f2, ?_, fun v hv => ?_⟩
    · rw [show ki 0 = nI 0 from rfl, e, show 1000 - 8 = 991 + 1 from rfl, F_X4_goNearestFirst_L52, kk_b8, if_pos (Int32.le_refl _)]
      rfl
    · rw [(h1 v hv).1, h4.2.2.1 v hv (ct_all h3 v hv)]
theorem w_dijk (D : Dy_ l l2 g w h) (R : R_ g w T n) (I : I_ T n) (hs8 : s < 8) (hs : op_ T x s) (hd : gd_ (ET_ T n x) s d) : ∃ f f2, F_X4_goNearestFirst (yv_ l y h) (l 0) (l2 0) x (nI s) = some (yv_ l (y2_ y f f2) h) ∧ ∀ v, v < 8 → f v = nI (d v) := by
  obtain ⟨f, f2, e, h1, h2⟩ := w_init (y := y) D x (nI s)
  have hr : rv_ (upd f s (nI 0)) (va_up (fun _ => 1000000) s 0) := by
    intro v hv
    by_cases ev : v = s
    · rw [ev, pk_us, va_up_self]
      exact ⟨rfl, by decide⟩
    · rw [pk_un ev, va_up_ne _ _ ev]
      exact ⟨h1 v hv, Nat.le_refl _⟩
  have hso : so_ (ET_ T n x) s (va_up (fun _ => 1000000) s 0) := by
    intro v hv
    by_cases ev : v = s
    · rw [ev, va_up_self]
      exact .inr ⟨by decide, 0, rfl, rfl⟩
    · rw [va_up_ne _ _ ev]
      exact .inl rfl
  obtain ⟨f3, f4, e3, h3⟩ := w_rounds (y := y2_ y (upd f s (nI 0)) f2) D R I hs8 hs hd (by rw [y2_1]; exact hr) hso (by rw [va_up_self]) (by rw [y2_2]; exact h2)
  refine ⟨f3, f4, ?_, h3⟩
  unfold F_X4_goNearestFirst
  have hne : ¬ bI_ (x = m1_ ∨ oT_ T s ≠ nI 2) = 0 := fun q => bI_0.mp q hs
  rw [show ki 0 = nI 0 from rfl, e, Option.bind_some, Y_is3 D, Option.bind_some, Y_open D R hs8, Option.bind_some, if_neg hne, yv_r0 D.1, Option.bind_some, yv_sI D.1 (.inl rfl) hs8, Option.bind_some, y2_1, y2_s1, e3]
  unfold y2_
  rw [yr_c (i := 2) (j := 1) (by decide), yr_yr, yr_yr]
theorem w_dijk0 (D : Dy_ l l2 g w h) (R : R_ g w T n) (hs8 : s < 8) (hs : ¬ op_ T x s) : ∃ f f2, F_X4_goNearestFirst (yv_ l y h) (l 0) (l2 0) x (nI s) = some (yv_ l (y2_ y f f2) h) ∧ ∀ v, v < 8 → f v = nI 1000000 := by
  obtain ⟨f, f2, e, h1, h2⟩ := w_init (y := y) D x (nI s)
  refine ⟨f, f2, ?_, h1⟩
  unfold F_X4_goNearestFirst
  have hne : bI_ (x = m1_ ∨ oT_ T s ≠ nI 2) = 0 := bI_0.mpr hs
  rw [show ki 0 = nI 0 from rfl, e, Option.bind_some, Y_is3 D, Option.bind_some, Y_open D R hs8, Option.bind_some, if_pos hne]
  unfold F_X4_goNearestFirst_B49
  rw [show (1000 : Nat) = 999 + 1 from rfl, F_X4_goNearestFirst_L52, kk_b8, kj_i0, if_neg (by decide), yv_is D.1, Option.bind_some]
  rcases w_near (y := y2_ y f f2) (r := fun _ => 1000000) (B := fun _ => false) D (fun v hv => ⟨by rw [y2_1]; exact h1 v hv, Nat.le_refl _⟩) (fun v hv => by rw [y2_2, h2 v hv]; rfl) with ⟨e1, -⟩ | ⟨u, hu, -, -, g2, -⟩
  · rw [e1, Option.bind_some, kk_m2, if_neg (fun q => q rfl), Option.bind_some]
  · omega
/-- again and again: the class's other search -/
theorem w_bf1 (D : Dy_ l l2 g w h) (R : R_ g w T n) (I : I_ T n) (hs : op_ T x s) (hr : rv_ (y 3) r) (hso : so_ (ET_ T n x) s r) (z : Int32) : ∃ f r', F_X4_goAgainAndAgain_L48 1000 (l 0) (l2 0) x z (nI 0) (yv_ l y h) = some (yv_ l (yr_ y 3 f) h) ∧ rv_ f r' ∧ so_ (ET_ T n x) s r' ∧ (∀ v, v < 8 → r' v ≤ r v) ∧ ∀ u v c, ET_ T n x u v c → r' v ≤ r u + c := by
  have hn := R_n R
  obtain ⟨x2, e, hp⟩ := lp_ (n := n) (f := fun m i (q : mm_S) => F_X4_goAgainAndAgain_L48 m (l 0) (l2 0) x z (nI i) q) (P := fun i q => ∃ f r', q = yv_ l (yr_ y 3 f) h ∧ rv_ f r' ∧ so_ (ET_ T n x) s r' ∧ (∀ v, v < 8 → r' v ≤ r v) ∧ ∀ j u c, j < i → u < 8 → E_ (sT_ T j) (nI u) = true → op_ T x u → op_ T x (oc_ T (nI u) j) → (1 ≤ c ∧ c ≤ 80 ∧ cost_ (sT_ T j) x = nI c) → r' (oc_ T (nI u) j) ≤ r u + c) (fun m i q hi hp => by
    obtain ⟨f, r1, rfl, g1, g2, g3, g5⟩ := hp
    obtain ⟨c0, c1, c2, ec⟩ := cost_n (I.2.2.2.2.1 i hi) x
    obtain ⟨p, t, hpt, ht, e1, e2⟩ := St_lo (I.2.2.2.2.1 i hi)
    have hp8 : p < 8 := by omega
    have hE1 : E_ (sT_ T i) (nI p) = true := E_iff.mpr (.inl e1)
    have hE2 : E_ (sT_ T i) (nI t) = true := E_iff.mpr (.inr e2)
    have ho1 : oc_ T (nI p) i = t := by
      unfold oc_
      rw [if_pos e1, e2, cl_nI (by omega)]
    have ho2 : oc_ T (nI t) i = p := by
      unfold oc_
      rw [if_neg (by rw [e1, nI_eq (by omega) (by omega)]; omega), e1, cl_nI (by omega)]
    have key : ∀ (f : Nat → Int32) (r1 : Nat → Nat) (u v : Nat), u < 8 → v < 8 → E_ (sT_ T i) (nI u) = true → oc_ T (nI u) i = v → rv_ f r1 → so_ (ET_ T n x) s r1 → ∃ f2 r2, F_X4_goOver (yv_ l (yr_ y 3 f) h) (l 0) (l2 0) x (l2 (g i)) (nI u) (l 3) = some (yv_ l (yr_ y 3 f2) h) ∧ rv_ f2 r2 ∧ so_ (ET_ T n x) s r2 ∧ (∀ v, v < 8 → r2 v ≤ r1 v) ∧ (op_ T x u → op_ T x v → r2 v ≤ r1 u + c0) := by
      intro f r1 u v hu hv hE ho g1 g2
      obtain ⟨f2, r2, k0, k1, k2⟩ := w_over (y := yr_ y 3 f) (a := 3) (r := r1) D R I hi hu (.inr (.inl rfl)) (by rw [yr_at]; exact g1) x ⟨c2, ec⟩
      rw [yr_yr] at k0
      rw [ho] at k2
      refine ⟨f2, r2, k0, k1, ?_⟩
      rcases k2 with ⟨q, rfl⟩ | ⟨q, rfl⟩
      · by_cases qu : op_ T x u
        · refine ⟨so_up g2 ET_ed (by have := ET_oc I hi hu hE ⟨c1, c2, ec⟩ qu (by rw [ho]; exact q); rw [ho] at this; exact this), fun a _ => ?_, fun _ _ => ?_⟩
          · by_cases ea : a = v
            · rw [ea, va_up_self]
              omega
            · rw [va_up_ne _ _ ea]
              exact Nat.le_refl _
          · rw [va_up_self]
            omega
        · have hfar : r1 u = 1000000 := by
            rcases g2 u hu with a | ⟨a, -⟩
            · exact a
            · exact absurd (so_op hs g2 hu a) qu
          have heq : va_up r1 v (min (r1 v) (r1 u + c0)) = r1 := by
            funext a
            by_cases ea : a = v
            · rw [ea, va_up_self]
              have := (g1 v hv).2
              omega
            · rw [va_up_ne _ _ ea]
          rw [heq]
          exact ⟨g2, fun _ _ => Nat.le_refl _, fun q2 _ => absurd q2 qu⟩
      · exact ⟨g2, fun _ _ => Nat.le_refl _, fun _ q2 => absurd q2 q⟩
    obtain ⟨f2, r2, a0, a1, a2, a3, a4⟩ := key f r1 p t hp8 ht hE1 ho1 g1 g2
    obtain ⟨f3, r3, b0, b1, b2, b3, b4⟩ := key f2 r2 t p ht hp8 hE2 ho2 a1 a2
    refine ⟨yv_ l (yr_ y 3 f3) h, ?_, f3, r3, rfl, b1, b2, fun v hv => ?_, fun j u c hj hu hE h1 h2 h3 => ?_⟩
    · rw [F_X4_goAgainAndAgain_L48, Y_n D R, Option.bind_some, if_neg (nI_ge hi (by omega)), Y_r2 D, Option.bind_some, Y_aS D R hi, Option.bind_some, Y_S D R hi (by decide), Option.bind_some, yv_r2 D.1, Option.bind_some, yv_is D.1, Option.bind_some, e1, a0, Option.bind_some, Y_S D R hi (by decide), Option.bind_some, yv_r2 D.1, Option.bind_some, yv_is D.1, Option.bind_some, e2, b0, Option.bind_some, nI_s]
    · have := b3 v hv
      have := a3 v hv
      have := g3 v hv
      omega
    · by_cases ej : j = i
      · subst ej
        have hc : c = c0 := by
          have := h3.2.2
          rw [ec, nI_eq (by omega) (by omega)] at this
          exact this.symm
        rcases E_iff.mp hE with q | q
        · rw [e1, nI_eq (by omega) (by omega)] at q
          subst q
          rw [ho1] at h2 ⊢
          have := b3 t ht
          have := a4 h1 h2
          have := g3 p hp8
          omega
        · rw [e2, nI_eq (by omega) (by omega)] at q
          subst q
          rw [ho2] at h2 ⊢
          have := b4 h1 h2
          have := a3 t ht
          have := g3 t ht
          omega
      · have := g5 j u c (by omega) hu hE h1 h2 h3
        have hv := oc_lt I (show j < n by omega) (nI u)
        have := b3 _ hv
        have := a3 _ hv
        omega) n 0 (yv_ l y h) 1000 (by omega) ⟨y 3, r, by rw [yr_id], hr, hso, fun _ _ => Nat.le_refl _, fun j u c hj => by omega⟩ (by omega)
  obtain ⟨f, r1, rfl, g1, g2, g3, g5⟩ := hp
  refine ⟨f, r1, ?_, g1, g2, g3, fun u v c hE => ?_⟩
  · rw [e, show 1000 - n = (999 - n) + 1 from by omega, F_X4_goAgainAndAgain_L48, Y_n D R, Option.bind_some, if_pos (Int32.le_refl _)]
  · obtain ⟨j, hj, h1, h2, h3, h4, h5⟩ := ET_inv I hE
    rw [← h2] at h5 ⊢
    exact g5 j u c hj (ET_ed _ _ _ hE).1 h1 h4 h5 h3
theorem w_bf (D : Dy_ l l2 g w h) (R : R_ g w T n) (I : I_ T n) (hb : b < 2) (hs8 : s < 8) (hg : gT_ T b 1 = nI s) (hs : op_ T (nI b) s) (hd : gd_ (ET_ T n (nI b)) s d) : ∃ f, F_X4_goAgainAndAgain (yv_ l y h) (l 0) (l2 0) (nI b) = some (yv_ l (yr_ y 3 f) h) ∧ ∀ v, v < 8 → f v = nI (d v) := by
  have hi : ∃ f, F_X4_goAgainAndAgain_L2 1000 (l 0) (l2 0) (nI b) (nI 0) (yv_ l y h) = some (yv_ l (yr_ y 3 f) h) ∧ ∀ v, v < 8 → f v = nI 1000000 := by
    obtain ⟨x2, e, hp⟩ := lp_ (n := 8) (f := fun m i (q : mm_S) => F_X4_goAgainAndAgain_L2 m (l 0) (l2 0) (nI b) (nI i) q) (P := fun i q => ∃ f, q = yv_ l (yr_ y 3 f) h ∧ ∀ v, v < i → f v = nI 1000000) (fun m i q hi hp => by
      obtain ⟨f, rfl, h1⟩ := hp
      refine ⟨_, ?_, upd f i (nI 1000000), rfl, fun v hv => ?_⟩
      · rw [F_X4_goAgainAndAgain_L2, kk_b8, if_neg (nI_ge hi (by decide)), yv_r2 D.1, Option.bind_some, yv_sI D.1 (.inr (.inl rfl)) hi, Option.bind_some, nI_s, yr_at, yr_yr]
      · by_cases ev : v = i
        · rw [ev, pk_us]
        · rw [pk_un ev]
          exact h1 v (by omega)) 8 0 (yv_ l y h) 1000 (by omega) ⟨y 3, by rw [yr_id], fun v hv => by omega⟩ (by omega)
    obtain ⟨f, rfl, h1⟩ := hp
    refine ⟨f, ?_, h1⟩
    rw [e, show 1000 - 8 = 991 + 1 from rfl, F_X4_goAgainAndAgain_L2, kk_b8, if_pos (Int32.le_refl _)]
  obtain ⟨f, e, h1⟩ := hi
  have hr : rv_ (upd f s (nI 0)) (va_up (fun _ => 1000000) s 0) := by
    intro v hv
    by_cases ev : v = s
    · rw [ev, pk_us, va_up_self]
      exact ⟨rfl, by decide⟩
    · rw [pk_un ev, va_up_ne _ _ ev]
      exact ⟨h1 v hv, Nat.le_refl _⟩
  have hso : so_ (ET_ T n (nI b)) s (va_up (fun _ => 1000000) s 0) := by
    intro v hv
    by_cases ev : v = s
    · rw [ev, va_up_self]
      exact .inr ⟨by decide, 0, rfl, rfl⟩
    · rw [va_up_ne _ _ ev]
      exact .inl rfl
  obtain ⟨x2, e2, hp⟩ := lp_ (n := 8) (f := fun m i (q : mm_S) => F_X4_goAgainAndAgain_L39 m (l 0) (l2 0) (nI b) (nI i) q) (P := fun i q => 1 ≤ i ∧ ∃ f r, q = yv_ l (yr_ y 3 f) h ∧ rv_ f r ∧ so_ (ET_ T n (nI b)) s r ∧ r s = 0 ∧ rk_ d (i - 1) r) (fun m i q hi hp => by
    obtain ⟨h0, f, r, rfl, k1, k2, k3, k4⟩ := hp
    obtain ⟨f2, r2, a0, a1, a2, a3, a4⟩ := w_bf1 (y := yr_ y 3 f) (r := r) D R I hs (by rw [yr_at]; exact k1) k2 (nI i)
    refine ⟨_, ?_, by omega, f2, r2, rfl, a1, a2, ?_, ?_⟩
    · rw [F_X4_goAgainAndAgain_L39, kk_b8, if_neg (nI_ge hi (by decide)), show ki 0 = nI 0 from rfl, a0, Option.bind_some, nI_s, yr_yr]
    · have := a3 s hs8
      omega
    · have := rk_s hd ET_ed k4 a3 a4 k3 hs8
      rw [show i - 1 + 1 = i + 1 - 1 from by omega] at this
      exact this) 7 1 (yv_ l (yr_ y 3 (upd f s (nI 0))) h) 1000 (by omega) ⟨by decide, _, _, rfl, hr, hso, by rw [va_up_self], rk_0 hd ET_ed (by rw [va_up_self])⟩ (by omega)
  obtain ⟨-, f2, r2, rfl, k1, k2, k3, k4⟩ := hp
  refine ⟨f2, ?_, fun v hv => ?_⟩
  · unfold F_X4_goAgainAndAgain
    rw [show ki 0 = nI 0 from rfl, e, Option.bind_some, yv_r2 D.1, Option.bind_some, Y_r0 D, Option.bind_some, Y_aG D hb, Option.bind_some, Y_G D R hb (by decide), Option.bind_some, hg, yv_sI D.1 (.inr (.inl rfl)) hs8, Option.bind_some, yr_at, yr_yr, show ki 1 = nI 1 from rfl, e2, show 1000 - 7 = 992 + 1 from rfl, F_X4_goAgainAndAgain_L39, kk_b8, if_pos (Int32.le_refl _), Option.bind_some]
  · rw [(k1 v hv).1, rk_end hd k2 (by decide) k4 hv]
end DK

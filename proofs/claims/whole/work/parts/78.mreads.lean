section MQ
variable {l : Nat → Nat} {M M1 : Nat → Nat → Int32} {h : mm_S} {v : Nat → Nat} {f p o k q : Nat} {s : Nat × Bool}
theorem rn_f {v : Nat → Nat} {f : Nat} (t : TV_ v f) : ∀ (ts : List Nat) (p : Nat), (∀ c ∈ ts, c ≠ 0) → p ≤ f → (rn_ v ts p).1 ≤ f
  | [], p, _, hp => hp
  | c :: ts, p, hc, hp => by
    rw [rn_c]
    split
    · next hk =>
      have : p < f := tv_f t (fun e => by
        rw [e] at hk
        exact ok1_0 (hc c List.mem_cons_self) hk)
      exact rn_f t ts (p + 1) (fun x hx => hc x (List.mem_cons_of_mem _ hx)) (by omega)
    · exact hp
theorem st1_f {t q : Nat} : st1_ v t (q, false) = (q, false) := if_neg (by simp)
theorem st2_f {q : Nat} : st2_ v (q, false) = (q, false) := if_neg (by simp)
/-- behind a fault nothing more is read -/
theorem m_rest_f (hl : ov_L 11 l h) (t : TV_ v f) (ms : Mq_ v f M1 (q, false)) (fr : FR_ M M1) (e22 : M 0 22 = nI o) (ho : o < 16) : ∃ M', (if kb 8 ≤ nI 0 then F_X6_order_B28 (mv_ l M1 h) (l 0) (nI 0) (ki 0) (ki 0) (ki 0) else (fx_is (mv_ l M1 h) (l 0) 6).bind fun _ => (F_X6_blank (mv_ l M1 h) (l 0)).bind fun v64 => (fx_is v64 (l 0) 6).bind fun _ => (F_X6_digits v64 (l 0) (ki 1)).bind fun v67 => F_X6_order_B28 v67.2 (l 0) (nI 0) v67.1 (ki 0) (ki 0)) = some (mv_ l M' h) ∧ OR_ v f o p k M M' (q, false) := by
  rw [if_neg (show ¬ kb 8 ≤ nI 0 by decide)]
  obtain ⟨N0, e0, a0, f0⟩ := m_blank hl t ms
  obtain ⟨N1, e1, a1, f1⟩ := m_d1 hl t a0
  obtain ⟨N2, e2, a2, f2⟩ := m_d1 hl t a1
  obtain ⟨N3, e3, a3, f3⟩ := m_blank hl t a2
  obtain ⟨N4, e4, a4, f4⟩ := m_d2 hl t a3
  rw [st1_f, st1_f, st1_f, st1_f, st2_f] at a4
  have frA := (FR_t (FR_t (FR_t (FR_t (FR_t fr f0) f1) f2) f3) f4)
  obtain ⟨M9, e9, r9⟩ := m_96 (p := p) (k := 0) hl a4 frA e22 ho (dv_ v (st1_ v 32 (q, false))) (dv_ v (st1_ v 35 (st1_ v 32 (q, false)))) (dv2_ v (st1_ v 32 (st1_ v 35 (st1_ v 35 (st1_ v 32 (q, false)))))) (fun y => absurd y (by simp))
  refine ⟨M9, ?_, ?_⟩
  · rw [mv_is hl, Option.bind_some, e0, Option.bind_some, mv_is hl, Option.bind_some, e1, Option.bind_some]
    dsimp only
    unfold F_X6_order_B28
    rw [if_neg (fun y => y rfl), mv_is hl, Option.bind_some, e2, Option.bind_some]
    dsimp only
    rw [mv_is hl, Option.bind_some, e3, Option.bind_some, mv_is hl, Option.bind_some, e4, Option.bind_some]
    dsimp only
    unfold F_X6_order_B49 F_X6_order_B80
    rw [if_neg (by decide), if_neg (by decide), if_neg (by decide), if_pos (show nI 0 ≠ kb 7 by decide), if_pos (show nI 0 ≠ ki 3 by decide)]
    exact e9
  · obtain ⟨b1, b2, b3, b4⟩ := r9
    refine ⟨b1, b2, b3, ?_⟩
    rw [if_neg (by simp)] at b4 ⊢
    exact b4
theorem MS_21 (ms : Mq_ v f M (p, true)) (hq : q ≤ 60) : Mq_ v f (w2_ M 0 21 (nI q)) (q, true) ∧ FR_ M (w2_ M 0 21 (nI q)) := by
  obtain ⟨m20, m21, m23, m7, hs⟩ := ms
  exact ⟨⟨by rw [w2_n2 (by omega), m20], w2_at, by rw [w2_n2 (by omega), m23], fun k hk => by rw [w2_ne (by decide), m7 k hk], hq⟩, fun a ha => by rw [w2_ne ha], fun k h1 h2 => by rw [w2_n2 (by omega)]⟩
theorem m_order (hl : ov_L 11 l h) (t : TV_ v f) (ms : Mq_ v f M (p, true)) (hp : p ≤ f) (e22 : M 0 22 = nI o) (ho : o < 16) : ∃ M', F_X6_order (mv_ l M h) (l 0) = some (mv_ l M' h) ∧ OR_ v f o p (kf_ v p 9).1 M M' (if (rn_ v (fx_tx (kf_ v p 9).1) p).2 = true then (oe_ v p (kf_ v p 9).1, true) else ((rn_ v (fx_tx (kf_ v p 9).1) p).1, false)) := by
  have hf := t.1
  have ekh := m_kh hl t ms 9 0 0 1000 rfl (by decide) (by decide)
  unfold F_X6_order F_X6_kindHere
  rw [mv_is hl, Option.bind_some, show F_X6_kindHere_L4 1000 (l 0) (ki 0) (ki 0) (mv_ l M h) = _ from ekh]
  cases hkh : kh_ v p 9 0 0 with
  | inl aq =>
    obtain ⟨a, q⟩ := aq
    obtain ⟨ha, hr, hq, hkd⟩ := kd_in hkh
    have hqf : q ≤ f := by
      have := rn_f t (wd_ a) p (fun c hc => (wd_ne a ha c hc).1) hp
      rw [hr] at this
      exact this
    obtain ⟨ms1, f1⟩ := MS_21 (q := q) ms (by omega)
    have esp : rn_ v (fx_tx a) p = rn_ v (rt_ a) q := by rw [tx_split a ha, rn_app, hr, if_pos rfl]
    rw [hkd, esp]
    dsimp only
    rw [Option.bind_some, Option.bind_some]
    dsimp only
    have fin : ∀ M', OR_ v f o p a M M' (if (rn_ v (rt_ a) q).2 = true then (oe_ v p a, true) else rn_ v (rt_ a) q) → OR_ v f o p a M M' (if (rn_ v (rt_ a) q).2 = true then (oe_ v p a, true) else ((rn_ v (rt_ a) q).1, false)) := fun M' z => by
      by_cases y : (rn_ v (rt_ a) q).2 = true
      · rw [if_pos y] at z ⊢
        exact z
      · rw [if_neg y] at z ⊢
        have : rn_ v (rt_ a) q = ((rn_ v (rt_ a) q).1, false) := Prod.ext rfl (by simpa using y)
        rw [this] at z
        exact z
    match a, ha with
    | 0, _ =>
      obtain ⟨M', e, r⟩ := m_rest0 (p := p) hl t (MS_s ms1 (show (q, true) = (p + 5, true) by rw [hq]; rfl)) f1 e22 ho
      rw [← show q = p + 5 from hq] at r
      exact ⟨M', e, fin M' r⟩
    | 1, _ =>
      obtain ⟨M', e, r⟩ := m_rest1 (p := p) hl t (MS_s ms1 (show (q, true) = (p + 4, true) by rw [hq]; rfl)) f1 e22 ho
      rw [← show q = p + 4 from hq] at r
      exact ⟨M', e, fin M' r⟩
    | 2, _ =>
      obtain ⟨M', e, r⟩ := m_rest2 (p := p) hl t (MS_s ms1 (show (q, true) = (p + 5, true) by rw [hq]; rfl)) f1 e22 ho
      rw [← show q = p + 5 from hq] at r
      exact ⟨M', e, fin M' r⟩
    | 3, _ =>
      obtain ⟨M', e, r⟩ := m_rest3 (p := p) hl t (MS_s ms1 (show (q, true) = (p + 5, true) by rw [hq]; rfl)) f1 e22 ho
      rw [← show q = p + 5 from hq] at r
      exact ⟨M', e, fin M' r⟩
    | 4, _ =>
      obtain ⟨M', e, r⟩ := m_rest4 (p := p) hl t (MS_s ms1 (show (q, true) = (p + 5, true) by rw [hq]; rfl)) f1 e22 ho
      rw [← show q = p + 5 from hq] at r
      exact ⟨M', e, fin M' r⟩
    | 5, _ =>
      obtain ⟨M', e, r⟩ := m_rest5 (p := p) hl t (MS_s ms1 (show (q, true) = (p + 4, true) by rw [hq]; rfl)) f1 e22 ho
      rw [← show q = p + 4 from hq] at r
      exact ⟨M', e, fin M' r⟩
    | 6, _ =>
      obtain ⟨M', e, r⟩ := m_rest6 (p := p) hl t (MS_s ms1 (show (q, true) = (p + 4, true) by rw [hq]; rfl)) f1 e22 ho
      rw [← show q = p + 4 from hq] at r
      exact ⟨M', e, fin M' r⟩
    | 7, _ =>
      obtain ⟨M', e, r⟩ := m_rest7 (p := p) hl t (MS_s ms1 (show (q, true) = (p + 4, true) by rw [hq]; rfl)) f1 e22 ho
      rw [← show q = p + 4 from hq] at r
      exact ⟨M', e, fin M' r⟩
    | 8, _ =>
      obtain ⟨M', e, r⟩ := m_rest8 (p := p) hl t (MS_s ms1 (show (q, true) = (p + 3, true) by rw [hq]; rfl)) f1 e22 ho
      rw [← show q = p + 3 from hq] at r
      exact ⟨M', e, fin M' r⟩
  | inr mx =>
    obtain ⟨hk9, hr⟩ := kd_out hkh
    have hqf : p + mx ≤ f := by
      have := rn_f t (fx_tx (kf_ v p 9).1) p (fun c hc => (tx_ne0 _ hk9 c hc).1) hp
      rw [hr] at this
      exact this
    obtain ⟨ms1, f1⟩ := MS_21 (q := p + mx) ms (by omega)
    obtain ⟨ms2, f2⟩ := m_dB hl ms1 false (.inr rfl)
    rw [if_neg (by decide)] at ms2 f2
    rw [hr]
    dsimp only
    rw [Option.bind_some]
    dsimp only
    rw [mg_21 hl, Option.bind_some, ms.2.1, nI_add, mp_21 hl, Option.bind_some, kj_i1, mp_23 hl nI1_fit, Option.bind_some, Option.bind_some, if_neg Bool.false_ne_true]
    dsimp only
    obtain ⟨M', e, r⟩ := m_rest_f (p := p) (k := (kf_ v p 9).1) hl t ms2 (FR_t f1 f2) e22 ho
    exact ⟨M', e, r⟩
/-- the orders stored -/
def MO_ (v : Nat → Nat) (M : Nat → Nat → Int32) (acc : List (Nat × Nat)) : Prop := M 0 22 = nI acc.length ∧ ∀ i, i < acc.length → M 8 i = nI (acc.getD i (0, 0)).1 ∧ ∀ j, j < 3 → M 9 (3 * i + j) = nI (on_ v (acc.getD i (0, 0)).2 (acc.getD i (0, 0)).1 j)
theorem MO_push {acc : List (Nat × Nat)} {M M' : Nat → Nat → Int32} (c : MO_ v M acc) (e3 : M' 0 22 = nI (acc.length + 1)) (ek : M' 8 = upd (M 8) acc.length (nI k)) (en : ∀ j, j < 3 → M' 9 (3 * acc.length + j) = nI (on_ v p k j)) (eo : ∀ x, (x < 3 * acc.length ∨ 3 * acc.length + 3 ≤ x) → M' 9 x = M 9 x) : MO_ v M' (acc ++ [(k, p)]) := by
  refine ⟨by rw [e3, List.length_append]; rfl, fun i hi => ?_⟩
  rw [List.length_append, List.length_singleton] at hi
  by_cases e : i = acc.length
  · subst e
    have eg : (acc ++ [(k, p)]).getD acc.length (0, 0) = (k, p) := by simp
    rw [eg]
    exact ⟨by rw [ek, up_at], en⟩
  · have eg : (acc ++ [(k, p)]).getD i (0, 0) = acc.getD i (0, 0) := by
      rw [List.getD_eq_getElem?_getD, List.getElem?_append_left (by omega), ← List.getD_eq_getElem?_getD]
    obtain ⟨c1, c2⟩ := c.2 i (by omega)
    rw [eg, ek, up_ne e]
    exact ⟨c1, fun j hj => by rw [eo _ (by omega)]; exact c2 j hj⟩
def RE_ (f : Nat) (flt : Option Nat) (e : Nat × Bool) : Prop := match flt with
  | none => e.2 = true ∧ f ≤ e.1
  | some x => e.1 = x ∧ (e.2 = false ∨ e.1 < f)
theorem rn_60 (t : TV_ v f) (hp : f ≤ p) (hk : k < 9) : rn_ v (fx_tx k) p = (p, false) := by
  have hl := tx_len k hk
  have h3 := tx_pos k hk
  cases e : fx_tx k with
  | nil => rw [e] at h3; exact absurd h3 (by decide)
  | cons c ts =>
    rw [rn_c, t.2.2 p hp, if_neg]
    exact ok1_0 (tx_ne0 k hk c (by rw [e]; exact List.mem_cons_self)).1
theorem m_reads_L (hl : ov_L 11 l h) (t : TV_ v f) : ∀ (n p fuel : Nat) (acc : List (Nat × Nat)) (M : Nat → Nat → Int32), n + acc.length = 15 → 4 * acc.length ≤ p → p ≤ f → n < fuel → Mq_ v f M (p, true) → MO_ v M acc → ∃ M1 M2 e, F_X6_order (mv_ l M h) (l 0) = some (mv_ l M1 h) ∧ F_X6_reads_L32 fuel (l 0) (mv_ l M1 h) = some (mv_ l M2 h) ∧ Mq_ v f M2 e ∧ FM_ M M2 ∧ M2 0 19 = M 0 19 ∧ MO_ v M2 (pr_ v f n p acc).2 ∧ RE_ f (pr_ v f n p acc).1 e := by
  intro n
  have hf60 := t.1
  obtain ⟨k1, k2, k3, k4, k5, k6, k7⟩ := kmi
  induction n with
  | zero =>
    intro p fuel acc M hn h4 hp hfu ms c
    obtain ⟨fuel, rfl⟩ : ∃ y, fuel = y + 1 := ⟨fuel - 1, by omega⟩
    obtain ⟨M1, e1, r1⟩ := m_order hl t ms hp c.1 (by omega)
    rw [rn_60 t (by omega) (kf_9 v p), if_neg (by simp)] at r1
    obtain ⟨a1, a2, a3, a4⟩ := r1
    rw [if_neg (by simp)] at a4
    refine ⟨M1, M1, (p, false), e1, ?_, a1, a2, a3, ⟨a4.1.trans c.1, fun i hi => by rw [a4.2.1, a4.2.2]; exact c.2 i hi⟩, rfl, .inl rfl⟩
    rw [F_X6_reads_L32, mv_is hl, Option.bind_some, m_mark hl t a1, Option.bind_some, if_neg (show ¬ ((p, false).2 = true ∧ (p, false).1 < f) from fun y => Bool.false_ne_true y.1), if_pos k7]
  | succ n ih =>
    intro p fuel acc M hn h4 hp hfu ms c
    obtain ⟨fuel, rfl⟩ : ∃ y, fuel = y + 1 := ⟨fuel - 1, by omega⟩
    obtain ⟨M1, e1, r1⟩ := m_order hl t ms hp c.1 (by omega)
    have hk := kf_9 v p
    generalize hkd : (kf_ v p 9).1 = k at hk r1
    have epr : pr_ v f (n + 1) p acc = if (rn_ v (fx_tx k) p).2 = true then (if oe_ v p k < f then (if v (oe_ v p k) = 59 then pr_ v f n (oe_ v p k + 1) (acc ++ [(k, p)]) else (some (oe_ v p k), acc ++ [(k, p)])) else (none, acc ++ [(k, p)])) else (some (rn_ v (fx_tx k) p).1, acc) := by
      rw [← hkd]
      rfl
    rw [epr]
    by_cases hr : (rn_ v (fx_tx k) p).2 = true
    · rw [if_pos hr] at r1 ⊢
      obtain ⟨a1, a2, a3, a4⟩ := r1
      rw [if_pos rfl] at a4
      have c1 : MO_ v M1 (acc ++ [(k, p)]) := MO_push c a4.1 a4.2.1 a4.2.2.1 a4.2.2.2
      have ho60 : oe_ v p k ≤ 60 := a1.2.2.2.2
      have ho3 : p + 3 ≤ oe_ v p k := by
        have := tx_pos k hk
        unfold oe_
        split <;> omega
      have em := m_mark hl t a1
      by_cases hq : oe_ v p k < f
      · rw [if_pos hq]
        rw [if_pos (show (oe_ v p k, true).2 = true ∧ (oe_ v p k, true).1 < f from ⟨rfl, hq⟩)] at em
        by_cases h59 : v (oe_ v p k) = 59
        · rw [if_pos h59]
          obtain ⟨ms2, f2⟩ := MS_21 (q := oe_ v p k + 1) a1 (by omega)
          have c2 : MO_ v (w2_ M1 0 21 (nI (oe_ v p k + 1))) (acc ++ [(k, p)]) := ⟨by rw [w2_n2 (by omega)]; exact c1.1, fun i hi => by rw [w2_ne (by decide), w2_ne (by decide)]; exact c1.2 i hi⟩
          obtain ⟨M3, M4, e, e3, e4, b1, b2, b3, b4, b5⟩ := ih (oe_ v p k + 1) fuel (acc ++ [(k, p)]) _ (by rw [List.length_append, List.length_singleton]; omega) (by rw [List.length_append, List.length_singleton]; omega) (by omega) (by omega) ms2 c2
          refine ⟨M1, M4, e, e1, ?_, b1, FM_t a2 (FM_t (FM_f f2) b2), ?_, b4, b5⟩
          · rw [F_X6_reads_L32, mv_is hl, Option.bind_some, em, Option.bind_some, show v (oe_ v p k, true).1 = 59 from h59, if_neg (fun y => y (by decide)), mg_21 hl, Option.bind_some, a1.2.1, nI_s, mp_21 hl, Option.bind_some, mv_is hl, Option.bind_some, show F_X6_order (mv_ l (w2_ M1 0 21 (nI ((oe_ v p k, true).1 + 1))) h) (l 0) = _ from e3, Option.bind_some, e4]
          · rw [b3, w2_n2 (by omega), a3]
        · rw [if_neg h59]
          have := tv_lt t (oe_ v p k)
          refine ⟨M1, M1, _, e1, ?_, a1, a2, a3, c1, rfl, .inr hq⟩
          rw [F_X6_reads_L32, mv_is hl, Option.bind_some, em, Option.bind_some, if_pos]
          exact fun y => h59 ((nI_eq (b := 59) (by show v (oe_ v p k) < 2 ^ 31; omega) (by decide)).mp (y.trans kk_b59))
      · rw [if_neg hq]
        rw [if_neg (show ¬ ((oe_ v p k, true).2 = true ∧ (oe_ v p k, true).1 < f) from fun y => hq y.2)] at em
        refine ⟨M1, M1, _, e1, ?_, a1, a2, a3, c1, rfl, ?_⟩
        · rw [F_X6_reads_L32, mv_is hl, Option.bind_some, em, Option.bind_some, if_pos k7]
        · show f ≤ oe_ v p k
          omega
    · rw [if_neg hr] at r1 ⊢
      obtain ⟨a1, a2, a3, a4⟩ := r1
      rw [if_neg (by simp)] at a4
      refine ⟨M1, M1, _, e1, ?_, a1, a2, a3, ⟨a4.1.trans c.1, fun i hi => by rw [a4.2.1, a4.2.2]; exact c.2 i hi⟩, rfl, .inl rfl⟩
      rw [F_X6_reads_L32, mv_is hl, Option.bind_some, m_mark hl t a1, Option.bind_some, if_neg (show ¬ (((rn_ v (fx_tx k) p).1, false).2 = true ∧ ((rn_ v (fx_tx k) p).1, false).1 < f) from fun y => Bool.false_ne_true y.1), if_pos k7]
theorem m_reads (hl : ov_L 11 l h) (t : TV_ v f) (e19 : M 0 19 = nI f) (m7 : ∀ k, k < f → M 7 k = nI (v k)) : ∃ M', F_X6_reads (mv_ l M h) (l 0) = some (mv_ l M' h) ∧ FM_ M M' ∧ M' 0 19 = nI 0 ∧ MO_ v M' (pr_ v f 15 0 []).2 ∧ match (pr_ v f 15 0 []).1 with
    | none => M' 0 23 = nI 0
    | some x => M' 0 23 = nI 1 ∧ M' 0 21 = nI x := by
  have hf60 := t.1
  obtain ⟨k1, k2, k3, k4, k5, k6, k7⟩ := kmi
  have z0 : nI 1 ||| ki 1 = nI 1 := k5
  obtain ⟨N, hN⟩ : ∃ N, N = w2_ (w2_ (w2_ (w2_ (w2_ M 0 20 (nI f)) 0 19 (nI 0)) 0 21 (nI 0)) 0 22 (nI 0)) 0 23 (nI 0) := ⟨_, rfl⟩
  have n20 : N 0 20 = nI f := by rw [hN, w2_n2 (by omega), w2_n2 (by omega), w2_n2 (by omega), w2_n2 (by omega), w2_at]
  have n19 : N 0 19 = nI 0 := by rw [hN, w2_n2 (by omega), w2_n2 (by omega), w2_n2 (by omega), w2_at]
  have n21 : N 0 21 = nI 0 := by rw [hN, w2_n2 (by omega), w2_n2 (by omega), w2_at]
  have n22 : N 0 22 = nI 0 := by rw [hN, w2_n2 (by omega), w2_at]
  have n23 : N 0 23 = nI 0 := by rw [hN, w2_at]
  have nr : ∀ a, a ≠ 0 → N a = M a := fun a ha => by rw [hN, w2_ne ha, w2_ne ha, w2_ne ha, w2_ne ha, w2_ne ha]
  have fN : FM_ M N := ⟨fun a ha _ _ => nr a ha, fun k h1 h2 h3 h4 h5 => by rw [hN, w2_n2 (by omega), w2_n2 (by omega), w2_n2 (by omega), w2_n2 (by omega), w2_n2 (by omega)]⟩
  have ms : Mq_ v f N (0, true) := ⟨n20, n21, n23, fun k hk => by rw [nr 7 (by decide), m7 k hk], by show 0 ≤ 60; omega⟩
  obtain ⟨M1, M2, e, e1, e2, b1, b2, b3, b4, b5⟩ := m_reads_L hl t 15 0 1000 [] N rfl (Nat.le_refl _) (Nat.zero_le _) (by decide) ms ⟨n22, fun i hi => absurd hi (by simp)⟩
  obtain ⟨c20, c21, c23, c7, cs⟩ := id b1
  have lead : ∀ x, (if nI f ≤ nI e.1 then (fx_pV (mv_ l M2 h) (l 0) 6 23 (.int ((if e.2 = true then nI 0 else nI 1) ||| ki 0))).bind fun h36 => some h36 else (fx_pV (mv_ l M2 h) (l 0) 6 23 (.int ((if e.2 = true then nI 0 else nI 1) ||| ki 1))).bind fun h38 => some h38) = x → F_X6_reads (mv_ l M h) (l 0) = x := fun x ex => by
    rw [← ex]
    unfold F_X6_reads
    rw [mg_19 hl, Option.bind_some, e19, mp_20 hl, Option.bind_some, kj_i0, mp_19 hl, Option.bind_some, mp_21 hl, Option.bind_some, mp_22 hl, Option.bind_some, mp_23 hl nI0_fit, Option.bind_some, ← hN, mv_is hl, Option.bind_some, e1, Option.bind_some, e2, Option.bind_some, mg_23 hl, Option.bind_some, mg_21 hl, Option.bind_some, mg_20 hl, Option.bind_some, c20, c21, c23]
  have fin : ∀ w, FM_ M (w2_ M2 0 23 w) ∧ w2_ M2 0 23 w 0 19 = nI 0 ∧ MO_ v (w2_ M2 0 23 w) (pr_ v f 15 0 []).2 := fun w =>
    ⟨FM_t fN (FM_t b2 ⟨fun a ha _ _ => by rw [w2_ne ha], fun k h1 h2 h3 h4 h5 => by rw [w2_n2 (by omega)]⟩), by rw [w2_n2 (by omega), b3, n19], by rw [w2_n2 (by omega)]; exact b4.1, fun i hi => by rw [w2_ne (by decide), w2_ne (by decide)]; exact b4.2 i hi⟩
  cases hfl : (pr_ v f 15 0 []).1 with
  | none =>
    rw [hfl] at b5
    obtain ⟨g1, g2⟩ := b5
    refine ⟨w2_ M2 0 23 (nI 0), lead _ ?_, (fin _).1, (fin _).2.1, (fin _).2.2, w2_at⟩
    rw [if_pos (nI_le g2 (by omega)), if_pos g1, k3, mp_23 hl nI0_fit, Option.bind_some]
  | some x =>
    rw [hfl] at b5
    obtain ⟨g1, g2⟩ := b5
    refine ⟨w2_ M2 0 23 (nI 1), lead _ ?_, (fin _).1, (fin _).2.1, (fin _).2.2, w2_at, by rw [w2_n2 (by omega), c21, g1]⟩
    by_cases hle : f ≤ e.1
    · have : ¬ e.2 = true := by
        rcases g2 with g2 | g2
        · rw [g2]; exact Bool.false_ne_true
        · omega
      rw [if_pos (nI_le hle (by omega)), if_neg this, k6, mp_23 hl nI1_fit, Option.bind_some]
    · have ew : (if e.2 = true then nI 0 else nI 1) ||| ki 1 = nI 1 := by
        split
        · exact k4
        · exact k5
      rw [if_neg (nI_ge (by omega) (by omega)), ew, mp_23 hl nI1_fit, Option.bind_some]
end MQ

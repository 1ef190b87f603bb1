/-! one order, then all, read by the reference -/
def FM_ (M M' : Nat → Nat → Int32) : Prop := (∀ a, a ≠ 0 → a ≠ 8 → a ≠ 9 → M' a = M a) ∧ ∀ k, k ≠ 19 → k ≠ 20 → k ≠ 21 → k ≠ 22 → k ≠ 23 → M' 0 k = M 0 k
theorem FM_t {M M1 M2 : Nat → Nat → Int32} (a : FM_ M M1) (b : FM_ M1 M2) : FM_ M M2 := ⟨fun x h h8 h9 => (b.1 x h h8 h9).trans (a.1 x h h8 h9), fun k h1 h2 h3 h4 h5 => (b.2 k h1 h2 h3 h4 h5).trans (a.2 k h1 h2 h3 h4 h5)⟩
theorem FM_f {M M1 : Nat → Nat → Int32} (a : FR_ M M1) : FM_ M M1 := ⟨fun x h _ _ => a.1 x h, fun k _ _ h3 _ h5 => a.2 k h3 h5⟩
/-- what an order leaves: stored, or a fault -/
def OR_ (v : Nat → Nat) (f o p k : Nat) (M M' : Nat → Nat → Int32) (e : Nat × Bool) : Prop := Mq_ v f M' e ∧ FM_ M M' ∧ M' 0 19 = M 0 19 ∧ if e.2 = true then M' 0 22 = nI (o + 1) ∧ M' 8 = upd (M 8) o (nI k) ∧ (∀ j, j < 3 → M' 9 (3 * o + j) = nI (on_ v p k j)) ∧ ∀ x, (x < 3 * o ∨ 3 * o + 3 ≤ x) → M' 9 x = M 9 x else M' 0 22 = M 0 22 ∧ M' 8 = M 8 ∧ M' 9 = M 9
section MO
variable {l : Nat → Nat} {M M1 : Nat → Nat → Int32} {h : mm_S} {v : Nat → Nat} {f p o k q : Nat} {s : Nat × Bool}
theorem m_96 (hl : ov_L 11 l h) (ms : Mq_ v f M1 s) (fr : FR_ M M1) (e22 : M 0 22 = nI o) (ho : o < 16) (n0 n1 n2 : Nat) (hv : s.2 = true → n0 = on_ v p k 0 ∧ n1 = on_ v p k 1 ∧ n2 = on_ v p k 2) : ∃ M', F_X6_order_B96 (mv_ l M1 h) (l 0) (nI k) (nI n0) (nI n1) (nI n2) = some (mv_ l M' h) ∧ OR_ v f o p k M M' s := by
  obtain ⟨m20, m21, m23, m7, hs⟩ := id ms
  have e22' : M1 0 22 = nI o := (fr.2 22 (by decide) (by decide)).trans e22
  have e19 : M1 0 19 = M 0 19 := fr.2 19 (by decide) (by decide)
  unfold F_X6_order_B96
  rw [mg_23 hl, Option.bind_some, m23]
  by_cases h2 : s.2 = true
  · obtain ⟨v0, v1, v2⟩ := hv h2
    rw [if_pos h2, if_pos (show nI 0 = 0 from rfl), mr_17 hl, Option.bind_some, mg_22 hl, Option.bind_some, e22', ms_8 hl (by omega), Option.bind_some, mr_18 hl, Option.bind_some, mg_22 hl, Option.bind_some, w2_ne (by decide), e22', kj_i3, pk_mul, ms_9 hl (by omega), Option.bind_some, mr_18 hl, Option.bind_some, mg_22 hl, Option.bind_some, w2_ne (by decide), w2_ne (by decide), e22', pk_mul, kj_i1, nI_add, ms_9 hl (by omega), Option.bind_some, mr_18 hl, Option.bind_some, mg_22 hl, Option.bind_some, w2_ne (by decide), w2_ne (by decide), w2_ne (by decide), e22', pk_mul, kj_i2, nI_add, ms_9 hl (by omega), Option.bind_some, mg_22 hl, Option.bind_some, w2_ne (by decide), w2_ne (by decide), w2_ne (by decide), w2_ne (by decide), e22', nI_add, mp_22 hl, Option.bind_some]
    refine ⟨_, rfl, ⟨by rw [w2_n2 (by omega), w2_ne (by decide), w2_ne (by decide), w2_ne (by decide), w2_ne (by decide), m20], by rw [w2_n2 (by omega), w2_ne (by decide), w2_ne (by decide), w2_ne (by decide), w2_ne (by decide), m21], by rw [w2_n2 (by omega), w2_ne (by decide), w2_ne (by decide), w2_ne (by decide), w2_ne (by decide), m23], fun k hk => by rw [w2_ne (by decide), w2_ne (by decide), w2_ne (by decide), w2_ne (by decide), w2_ne (by decide), m7 k hk], hs⟩, ⟨fun a h0 h8 h9 => by rw [w2_ne h0, w2_ne h9, w2_ne h9, w2_ne h9, w2_ne h8, fr.1 a h0], fun k h1 h2 h3 h4 h5 => by rw [w2_n2 (by omega), w2_ne (by decide), w2_ne (by decide), w2_ne (by decide), w2_ne (by decide), fr.2 k h3 h5]⟩, by rw [w2_n2 (by omega), w2_ne (by decide), w2_ne (by decide), w2_ne (by decide), w2_ne (by decide), e19], ?_⟩
    rw [if_pos h2]
    refine ⟨w2_at, by rw [w2_ne (by decide), w2_ne (by decide), w2_ne (by decide), w2_ne (by decide), w2_upd, fr.1 8 (by decide)], fun j hj => ?_, fun x hx => by rw [w2_ne (by decide), w2_n2 (by omega), w2_n2 (by omega), w2_n2 (by omega), w2_ne (by decide), fr.1 9 (by decide)]⟩
    match j, hj with
    | 0, _ => rw [w2_ne (by decide), w2_n2 (by omega), w2_n2 (by omega), Nat.add_zero, w2_at, v0]
    | 1, _ => rw [w2_ne (by decide), w2_n2 (by omega), w2_at, v1]
    | 2, _ => rw [w2_ne (by decide), w2_at, v2]
  · rw [if_neg h2, if_neg (by decide)]
    refine ⟨_, rfl, ms, FM_f fr, e19, ?_⟩
    rw [if_neg h2]
    exact ⟨fr.2 22 (by decide) (by decide), fr.1 8 (by decide), fr.1 9 (by decide)⟩
theorem st1_t {t : Nat} (h : ok1_ t (v q) = true) : st1_ v t (q, true) = (q + 1, true) := if_pos ⟨rfl, h⟩
theorem dv_t (h : ok1_ 35 (v q) = true) : dv_ v (q, true) = v q - 48 := if_pos ⟨rfl, h⟩
theorem na_k {a b : Nat} (ha : a < 100) (hb : b < 100) (h : a ≠ b) : ¬ nI a = nI b := fun y => h ((nI_eq (by omega) (by omega)).mp y)
theorem MS_s {M : Nat → Nat → Int32} (ms : Mq_ v f M s) {s' : Nat × Bool} (e : s = s') : Mq_ v f M s' := e ▸ ms
theorem m_rest0 (hl : ov_L 11 l h) (t : TV_ v f) (ms : Mq_ v f M1 (p + 5, true)) (fr : FR_ M M1) (e22 : M 0 22 = nI o) (ho : o < 16) : ∃ M', (if kb 8 ≤ nI 0 then F_X6_order_B28 (mv_ l M1 h) (l 0) (nI 0) (ki 0) (ki 0) (ki 0) else (fx_is (mv_ l M1 h) (l 0) 6).bind fun _ => (F_X6_blank (mv_ l M1 h) (l 0)).bind fun v64 => (fx_is v64 (l 0) 6).bind fun _ => (F_X6_digits v64 (l 0) (ki 1)).bind fun v67 => F_X6_order_B28 v67.2 (l 0) (nI 0) v67.1 (ki 0) (ki 0)) = some (mv_ l M' h) ∧ OR_ v f o p 0 M M' (if (rn_ v (rt_ 0) (p + 5)).2 = true then (oe_ v p 0, true) else rn_ v (rt_ 0) (p + 5)) := by
  rw [if_neg (show ¬ kb 8 ≤ nI 0 by decide)]
  obtain ⟨N0, e0, a0, f0⟩ := m_blank hl t ms
  obtain ⟨N1, e1, a1, f1⟩ := m_d1 hl t a0
  obtain ⟨N2, e2, a2, f2⟩ := m_d1 hl t a1
  obtain ⟨N3, e3, a3, f3⟩ := m_blank hl t a2
  obtain ⟨N4, e4, a4, f4⟩ := m_d2 hl t a3
  have frA := (FR_t (FR_t (FR_t (FR_t (FR_t fr f0) f1) f2) f3) f4)
  have efin4 : (st1_ v 32 (st1_ v 35 (st1_ v 35 (st1_ v 32 (p + 5, true))))) = rn_ v [32, 35, 35, 32] (p + 5) := sts_t v [32, 35, 35, 32] (p + 5)
  by_cases hr : (rn_ v (rt_ 0) (p + 5)).2 = true
  · rw [if_pos hr]
    have o0 : ok1_ 32 (v (p + 5)) = true := rn_at v (rt_ 0) (p + 5) 0 (by rw [(rn_le v (rt_ 0) (p + 5)).2.2.mp hr]; show p + 5 + 0 < p + 5 + 5; omega)
    have o1 : ok1_ 35 (v (p + 6)) = true := rn_at v (rt_ 0) (p + 5) 1 (by rw [(rn_le v (rt_ 0) (p + 5)).2.2.mp hr]; show p + 5 + 1 < p + 5 + 5; omega)
    have o2 : ok1_ 35 (v (p + 7)) = true := rn_at v (rt_ 0) (p + 5) 2 (by rw [(rn_le v (rt_ 0) (p + 5)).2.2.mp hr]; show p + 5 + 2 < p + 5 + 5; omega)
    have o3 : ok1_ 32 (v (p + 8)) = true := rn_at v (rt_ 0) (p + 5) 3 (by rw [(rn_le v (rt_ 0) (p + 5)).2.2.mp hr]; show p + 5 + 3 < p + 5 + 5; omega)
    have o4 : ok1_ 35 (v (p + 9)) = true := rn_at v (rt_ 0) (p + 5) 4 (by rw [(rn_le v (rt_ 0) (p + 5)).2.2.mp hr]; show p + 5 + 4 < p + 5 + 5; omega)
    have s0 : st1_ v 32 (p + 5, true) = (p + 6, true) := st1_t o0
    have s1 : st1_ v 35 (p + 6, true) = (p + 7, true) := st1_t o1
    have s2 : st1_ v 35 (p + 7, true) = (p + 8, true) := st1_t o2
    have s3 : st1_ v 32 (p + 8, true) = (p + 9, true) := st1_t o3
    have hS : (st1_ v 32 (st1_ v 35 (st1_ v 35 (st1_ v 32 (p + 5, true))))) = (p + 9, true) := by rw [s0, s1, s2, s3]
    have hfin : (st2_ v (st1_ v 32 (st1_ v 35 (st1_ v 35 (st1_ v 32 (p + 5, true)))))) = (oe_ v p 0, true) := by
      rw [hS]
      unfold st2_ oe_
      rw [if_pos (show (p + 9, true).2 = true ∧ ok1_ 35 (v (p + 9, true).1) = true from ⟨rfl, o4⟩)]
      by_cases hd : 48 ≤ v (p + 10) ∧ v (p + 10) ≤ 57
      · rw [if_pos (show ok1_ 35 (v ((p + 9, true).1 + 1)) = true from ok35.mpr hd), if_pos ⟨rfl, hd⟩]
      · rw [if_neg (show ¬ ok1_ 35 (v ((p + 9, true).1 + 1)) = true from fun y => hd (ok35.mp y)), if_neg (fun y => hd y.2)]
        rfl
    have h2v : dv2_ v (p + 9, true) = on_ v p 0 2 := by
      show _ = (if 48 ≤ v (p + 10) ∧ v (p + 10) ≤ 57 then 10 * (v (p + 9) - 48) + (v (p + 10) - 48) else v (p + 9) - 48)
      unfold dv2_
      rw [if_pos (show (p + 9, true).2 = true ∧ ok1_ 35 (v (p + 9, true).1) = true from ⟨rfl, o4⟩)]
      by_cases hd : 48 ≤ v (p + 10) ∧ v (p + 10) ≤ 57
      · rw [if_pos (show ok1_ 35 (v ((p + 9, true).1 + 1)) = true from ok35.mpr hd), if_pos hd]
      · rw [if_neg (show ¬ ok1_ 35 (v ((p + 9, true).1 + 1)) = true from fun y => hd (ok35.mp y)), if_neg hd]
    obtain ⟨M9, e9, r9⟩ := m_96 (p := p) (k := 0) hl a4 frA e22 ho (dv_ v (st1_ v 32 (p + 5, true))) (dv_ v (st1_ v 35 (st1_ v 32 (p + 5, true)))) (dv2_ v (st1_ v 32 (st1_ v 35 (st1_ v 35 (st1_ v 32 (p + 5, true)))))) (fun _ => ⟨by rw [s0, dv_t o1] <;> rfl, by rw [s0, s1, dv_t o2] <;> rfl, by rw [hS]; exact h2v⟩)
    · refine ⟨M9, ?_, ?_⟩
      · rw [mv_is hl, Option.bind_some, e0, Option.bind_some, mv_is hl, Option.bind_some, e1, Option.bind_some]
        dsimp only
        unfold F_X6_order_B28
        rw [if_neg (fun y => y rfl), mv_is hl, Option.bind_some, e2, Option.bind_some]
        dsimp only
        rw [mv_is hl, Option.bind_some, e3, Option.bind_some, mv_is hl, Option.bind_some, e4, Option.bind_some]
        dsimp only
        unfold F_X6_order_B49 F_X6_order_B80
        rw [if_neg (by decide), if_neg (by decide), if_neg (by decide), if_pos (show nI 0 ≠ kb 7 by decide), if_pos (show nI 0 ≠ ki 3 by decide)]
        exact e9
      · rw [hfin] at r9
        exact r9
  · rw [if_neg hr]
    have ernt : rn_ v (rt_ 0) (p + 5) = if (rn_ v [32, 35, 35, 32] (p + 5)).2 = true then rn_ v [35] (rn_ v [32, 35, 35, 32] (p + 5)).1 else rn_ v [32, 35, 35, 32] (p + 5) := rn_app v [32, 35, 35, 32] [35] (p + 5)
    have efin : (st2_ v (st1_ v 32 (st1_ v 35 (st1_ v 35 (st1_ v 32 (p + 5, true)))))) = rn_ v (rt_ 0) (p + 5) := by
      rw [efin4, ernt]
      rw [ernt] at hr
      unfold st2_
      by_cases h4 : (rn_ v [32, 35, 35, 32] (p + 5)).2 = true
      · rw [if_pos h4] at hr ⊢
        generalize rn_ v [32, 35, 35, 32] (p + 5) = x at *
        by_cases h5 : ok1_ 35 (v x.1) = true
        · exfalso
          apply hr
          rw [rn_c, if_pos h5]
          rfl
        · rw [if_neg (fun y => h5 y.2), rn_c, if_neg h5]
      · rw [if_neg h4, if_neg (fun y => h4 y.1)]
        exact Prod.ext rfl (by simpa using h4)
    have h2f : ¬ (st2_ v (st1_ v 32 (st1_ v 35 (st1_ v 35 (st1_ v 32 (p + 5, true)))))).2 = true := by rw [efin]; exact hr
    obtain ⟨M9, e9, r9⟩ := m_96 (p := p) (k := 0) hl a4 frA e22 ho (dv_ v (st1_ v 32 (p + 5, true))) (dv_ v (st1_ v 35 (st1_ v 32 (p + 5, true)))) (dv2_ v (st1_ v 32 (st1_ v 35 (st1_ v 35 (st1_ v 32 (p + 5, true)))))) (fun y => absurd y h2f)
    refine ⟨M9, ?_, ?_⟩
    · rw [mv_is hl, Option.bind_some, e0, Option.bind_some, mv_is hl, Option.bind_some, e1, Option.bind_some]
      dsimp only
      unfold F_X6_order_B28
      rw [if_neg (fun y => y rfl), mv_is hl, Option.bind_some, e2, Option.bind_some]
      dsimp only
      rw [mv_is hl, Option.bind_some, e3, Option.bind_some, mv_is hl, Option.bind_some, e4, Option.bind_some]
      dsimp only
      unfold F_X6_order_B49 F_X6_order_B80
      rw [if_neg (by decide), if_neg (by decide), if_neg (by decide), if_pos (show nI 0 ≠ kb 7 by decide), if_pos (show nI 0 ≠ ki 3 by decide)]
      exact e9
    · rw [efin] at r9
      exact r9
theorem m_rest1 (hl : ov_L 11 l h) (t : TV_ v f) (ms : Mq_ v f M1 (p + 4, true)) (fr : FR_ M M1) (e22 : M 0 22 = nI o) (ho : o < 16) : ∃ M', (if kb 8 ≤ nI 1 then F_X6_order_B28 (mv_ l M1 h) (l 0) (nI 1) (ki 0) (ki 0) (ki 0) else (fx_is (mv_ l M1 h) (l 0) 6).bind fun _ => (F_X6_blank (mv_ l M1 h) (l 0)).bind fun v64 => (fx_is v64 (l 0) 6).bind fun _ => (F_X6_digits v64 (l 0) (ki 1)).bind fun v67 => F_X6_order_B28 v67.2 (l 0) (nI 1) v67.1 (ki 0) (ki 0)) = some (mv_ l M' h) ∧ OR_ v f o p 1 M M' (if (rn_ v (rt_ 1) (p + 4)).2 = true then (oe_ v p 1, true) else rn_ v (rt_ 1) (p + 4)) := by
  rw [if_neg (show ¬ kb 8 ≤ nI 1 by decide)]
  obtain ⟨N0, e0, a0, f0⟩ := m_blank hl t ms
  obtain ⟨N1, e1, a1, f1⟩ := m_d1 hl t a0
  have frA := (FR_t (FR_t fr f0) f1)
  have efin : (st1_ v 35 (st1_ v 32 (p + 4, true))) = rn_ v (rt_ 1) (p + 4) := sts_t v (rt_ 1) (p + 4)
  by_cases hr : (rn_ v (rt_ 1) (p + 4)).2 = true
  · rw [if_pos hr]
    have o0 : ok1_ 32 (v (p + 4)) = true := rn_at v (rt_ 1) (p + 4) 0 (by rw [(rn_le v (rt_ 1) (p + 4)).2.2.mp hr]; show p + 4 + 0 < p + 4 + 2; omega)
    have o1 : ok1_ 35 (v (p + 5)) = true := rn_at v (rt_ 1) (p + 4) 1 (by rw [(rn_le v (rt_ 1) (p + 4)).2.2.mp hr]; show p + 4 + 1 < p + 4 + 2; omega)
    have s0 : st1_ v 32 (p + 4, true) = (p + 5, true) := st1_t o0
    have s1 : st1_ v 35 (p + 5, true) = (p + 6, true) := st1_t o1
    have hfin : (st1_ v 35 (st1_ v 32 (p + 4, true))) = (p + 6, true) := by rw [s0, s1]
    have eo : oe_ v p 1 = p + 6 := if_neg (fun y => absurd y.1 (by decide))
    obtain ⟨M9, e9, r9⟩ := m_96 (p := p) (k := 1) hl a1 frA e22 ho (dv_ v (st1_ v 32 (p + 4, true))) 0 0 (fun _ => ⟨by rw [s0, dv_t o1] <;> rfl, by rfl, by rfl⟩)
    · refine ⟨M9, ?_, ?_⟩
      · rw [mv_is hl, Option.bind_some, e0, Option.bind_some, mv_is hl, Option.bind_some, e1, Option.bind_some]
        dsimp only
        unfold F_X6_order_B28 F_X6_order_B49
        rw [if_pos (show nI 1 ≠ 0 by decide)]
        unfold F_X6_order_B80
        rw [if_neg (by decide), if_neg (by decide), if_neg (by decide), if_pos (show nI 1 ≠ kb 7 by decide), if_pos (show nI 1 ≠ ki 3 by decide)]
        exact e9
      · rw [hfin] at r9
        rw [eo]
        exact r9
  · rw [if_neg hr]
    have h2f : ¬ (st1_ v 35 (st1_ v 32 (p + 4, true))).2 = true := by rw [efin]; exact hr
    obtain ⟨M9, e9, r9⟩ := m_96 (p := p) (k := 1) hl a1 frA e22 ho (dv_ v (st1_ v 32 (p + 4, true))) 0 0 (fun y => absurd y h2f)
    refine ⟨M9, ?_, ?_⟩
    · rw [mv_is hl, Option.bind_some, e0, Option.bind_some, mv_is hl, Option.bind_some, e1, Option.bind_some]
      dsimp only
      unfold F_X6_order_B28 F_X6_order_B49
      rw [if_pos (show nI 1 ≠ 0 by decide)]
      unfold F_X6_order_B80
      rw [if_neg (by decide), if_neg (by decide), if_neg (by decide), if_pos (show nI 1 ≠ kb 7 by decide), if_pos (show nI 1 ≠ ki 3 by decide)]
      exact e9
    · rw [efin] at r9
      exact r9
theorem m_rest2 (hl : ov_L 11 l h) (t : TV_ v f) (ms : Mq_ v f M1 (p + 5, true)) (fr : FR_ M M1) (e22 : M 0 22 = nI o) (ho : o < 16) : ∃ M', (if kb 8 ≤ nI 2 then F_X6_order_B28 (mv_ l M1 h) (l 0) (nI 2) (ki 0) (ki 0) (ki 0) else (fx_is (mv_ l M1 h) (l 0) 6).bind fun _ => (F_X6_blank (mv_ l M1 h) (l 0)).bind fun v64 => (fx_is v64 (l 0) 6).bind fun _ => (F_X6_digits v64 (l 0) (ki 1)).bind fun v67 => F_X6_order_B28 v67.2 (l 0) (nI 2) v67.1 (ki 0) (ki 0)) = some (mv_ l M' h) ∧ OR_ v f o p 2 M M' (if (rn_ v (rt_ 2) (p + 5)).2 = true then (oe_ v p 2, true) else rn_ v (rt_ 2) (p + 5)) := by
  rw [if_neg (show ¬ kb 8 ≤ nI 2 by decide)]
  obtain ⟨N0, e0, a0, f0⟩ := m_blank hl t ms
  obtain ⟨N1, e1, a1, f1⟩ := m_d1 hl t a0
  have frA := (FR_t (FR_t fr f0) f1)
  have efin : (st1_ v 35 (st1_ v 32 (p + 5, true))) = rn_ v (rt_ 2) (p + 5) := sts_t v (rt_ 2) (p + 5)
  by_cases hr : (rn_ v (rt_ 2) (p + 5)).2 = true
  · rw [if_pos hr]
    have o0 : ok1_ 32 (v (p + 5)) = true := rn_at v (rt_ 2) (p + 5) 0 (by rw [(rn_le v (rt_ 2) (p + 5)).2.2.mp hr]; show p + 5 + 0 < p + 5 + 2; omega)
    have o1 : ok1_ 35 (v (p + 6)) = true := rn_at v (rt_ 2) (p + 5) 1 (by rw [(rn_le v (rt_ 2) (p + 5)).2.2.mp hr]; show p + 5 + 1 < p + 5 + 2; omega)
    have s0 : st1_ v 32 (p + 5, true) = (p + 6, true) := st1_t o0
    have s1 : st1_ v 35 (p + 6, true) = (p + 7, true) := st1_t o1
    have hfin : (st1_ v 35 (st1_ v 32 (p + 5, true))) = (p + 7, true) := by rw [s0, s1]
    have eo : oe_ v p 2 = p + 7 := if_neg (fun y => absurd y.1 (by decide))
    obtain ⟨M9, e9, r9⟩ := m_96 (p := p) (k := 2) hl a1 frA e22 ho (dv_ v (st1_ v 32 (p + 5, true))) 0 0 (fun _ => ⟨by rw [s0, dv_t o1] <;> rfl, by rfl, by rfl⟩)
    · refine ⟨M9, ?_, ?_⟩
      · rw [mv_is hl, Option.bind_some, e0, Option.bind_some, mv_is hl, Option.bind_some, e1, Option.bind_some]
        dsimp only
        unfold F_X6_order_B28 F_X6_order_B49
        rw [if_pos (show nI 2 ≠ 0 by decide)]
        unfold F_X6_order_B80
        rw [if_neg (by decide), if_neg (by decide), if_neg (by decide), if_pos (show nI 2 ≠ kb 7 by decide), if_pos (show nI 2 ≠ ki 3 by decide)]
        exact e9
      · rw [hfin] at r9
        rw [eo]
        exact r9
  · rw [if_neg hr]
    have h2f : ¬ (st1_ v 35 (st1_ v 32 (p + 5, true))).2 = true := by rw [efin]; exact hr
    obtain ⟨M9, e9, r9⟩ := m_96 (p := p) (k := 2) hl a1 frA e22 ho (dv_ v (st1_ v 32 (p + 5, true))) 0 0 (fun y => absurd y h2f)
    refine ⟨M9, ?_, ?_⟩
    · rw [mv_is hl, Option.bind_some, e0, Option.bind_some, mv_is hl, Option.bind_some, e1, Option.bind_some]
      dsimp only
      unfold F_X6_order_B28 F_X6_order_B49
      rw [if_pos (show nI 2 ≠ 0 by decide)]
      unfold F_X6_order_B80
      rw [if_neg (by decide), if_neg (by decide), if_neg (by decide), if_pos (show nI 2 ≠ kb 7 by decide), if_pos (show nI 2 ≠ ki 3 by decide)]
      exact e9
    · rw [efin] at r9
      exact r9
theorem m_rest3 (hl : ov_L 11 l h) (t : TV_ v f) (ms : Mq_ v f M1 (p + 5, true)) (fr : FR_ M M1) (e22 : M 0 22 = nI o) (ho : o < 16) : ∃ M', (if kb 8 ≤ nI 3 then F_X6_order_B28 (mv_ l M1 h) (l 0) (nI 3) (ki 0) (ki 0) (ki 0) else (fx_is (mv_ l M1 h) (l 0) 6).bind fun _ => (F_X6_blank (mv_ l M1 h) (l 0)).bind fun v64 => (fx_is v64 (l 0) 6).bind fun _ => (F_X6_digits v64 (l 0) (ki 1)).bind fun v67 => F_X6_order_B28 v67.2 (l 0) (nI 3) v67.1 (ki 0) (ki 0)) = some (mv_ l M' h) ∧ OR_ v f o p 3 M M' (if (rn_ v (rt_ 3) (p + 5)).2 = true then (oe_ v p 3, true) else rn_ v (rt_ 3) (p + 5)) := by
  rw [if_neg (show ¬ kb 8 ≤ nI 3 by decide)]
  obtain ⟨N0, e0, a0, f0⟩ := m_blank hl t ms
  obtain ⟨N1, e1, a1, f1⟩ := m_d1 hl t a0
  obtain ⟨N2, e2, a2, f2⟩ := m_blank hl t a1
  obtain ⟨N3, e3, a3, f3⟩ := m_d1 hl t a2
  obtain ⟨N4, e4, a4, f4⟩ := m_blank hl t a3
  obtain ⟨N5, e5, a5, f5⟩ := m_d1 hl t a4
  have frA := (FR_t (FR_t (FR_t (FR_t (FR_t (FR_t fr f0) f1) f2) f3) f4) f5)
  have efin : (st1_ v 35 (st1_ v 32 (st1_ v 35 (st1_ v 32 (st1_ v 35 (st1_ v 32 (p + 5, true))))))) = rn_ v (rt_ 3) (p + 5) := sts_t v (rt_ 3) (p + 5)
  by_cases hr : (rn_ v (rt_ 3) (p + 5)).2 = true
  · rw [if_pos hr]
    have o0 : ok1_ 32 (v (p + 5)) = true := rn_at v (rt_ 3) (p + 5) 0 (by rw [(rn_le v (rt_ 3) (p + 5)).2.2.mp hr]; show p + 5 + 0 < p + 5 + 6; omega)
    have o1 : ok1_ 35 (v (p + 6)) = true := rn_at v (rt_ 3) (p + 5) 1 (by rw [(rn_le v (rt_ 3) (p + 5)).2.2.mp hr]; show p + 5 + 1 < p + 5 + 6; omega)
    have o2 : ok1_ 32 (v (p + 7)) = true := rn_at v (rt_ 3) (p + 5) 2 (by rw [(rn_le v (rt_ 3) (p + 5)).2.2.mp hr]; show p + 5 + 2 < p + 5 + 6; omega)
    have o3 : ok1_ 35 (v (p + 8)) = true := rn_at v (rt_ 3) (p + 5) 3 (by rw [(rn_le v (rt_ 3) (p + 5)).2.2.mp hr]; show p + 5 + 3 < p + 5 + 6; omega)
    have o4 : ok1_ 32 (v (p + 9)) = true := rn_at v (rt_ 3) (p + 5) 4 (by rw [(rn_le v (rt_ 3) (p + 5)).2.2.mp hr]; show p + 5 + 4 < p + 5 + 6; omega)
    have o5 : ok1_ 35 (v (p + 10)) = true := rn_at v (rt_ 3) (p + 5) 5 (by rw [(rn_le v (rt_ 3) (p + 5)).2.2.mp hr]; show p + 5 + 5 < p + 5 + 6; omega)
    have s0 : st1_ v 32 (p + 5, true) = (p + 6, true) := st1_t o0
    have s1 : st1_ v 35 (p + 6, true) = (p + 7, true) := st1_t o1
    have s2 : st1_ v 32 (p + 7, true) = (p + 8, true) := st1_t o2
    have s3 : st1_ v 35 (p + 8, true) = (p + 9, true) := st1_t o3
    have s4 : st1_ v 32 (p + 9, true) = (p + 10, true) := st1_t o4
    have s5 : st1_ v 35 (p + 10, true) = (p + 11, true) := st1_t o5
    have hfin : (st1_ v 35 (st1_ v 32 (st1_ v 35 (st1_ v 32 (st1_ v 35 (st1_ v 32 (p + 5, true))))))) = (p + 11, true) := by rw [s0, s1, s2, s3, s4, s5]
    have eo : oe_ v p 3 = p + 11 := if_neg (fun y => absurd y.1 (by decide))
    obtain ⟨M9, e9, r9⟩ := m_96 (p := p) (k := 3) hl a5 frA e22 ho (dv_ v (st1_ v 32 (p + 5, true))) (dv_ v (st1_ v 32 (st1_ v 35 (st1_ v 32 (p + 5, true))))) (dv_ v (st1_ v 32 (st1_ v 35 (st1_ v 32 (st1_ v 35 (st1_ v 32 (p + 5, true))))))) (fun _ => ⟨by rw [s0, dv_t o1] <;> rfl, by rw [s0, s1, s2, dv_t o3] <;> rfl, by rw [s0, s1, s2, s3, s4, dv_t o5] <;> rfl⟩)
    · refine ⟨M9, ?_, ?_⟩
      · rw [mv_is hl, Option.bind_some, e0, Option.bind_some, mv_is hl, Option.bind_some, e1, Option.bind_some]
        dsimp only
        unfold F_X6_order_B28 F_X6_order_B49
        rw [if_pos (show nI 3 ≠ 0 by decide)]
        rw [if_pos (by decide)]
        unfold F_X6_order_B70
        rw [mv_is hl, Option.bind_some, e2, Option.bind_some, mv_is hl, Option.bind_some, e3, Option.bind_some]
        dsimp only
        unfold F_X6_order_B80
        rw [if_neg (fun y => y (by decide)), mv_is hl, Option.bind_some, e4, Option.bind_some, mv_is hl, Option.bind_some, e5, Option.bind_some]
        exact e9
      · rw [hfin] at r9
        rw [eo]
        exact r9
  · rw [if_neg hr]
    have h2f : ¬ (st1_ v 35 (st1_ v 32 (st1_ v 35 (st1_ v 32 (st1_ v 35 (st1_ v 32 (p + 5, true))))))).2 = true := by rw [efin]; exact hr
    obtain ⟨M9, e9, r9⟩ := m_96 (p := p) (k := 3) hl a5 frA e22 ho (dv_ v (st1_ v 32 (p + 5, true))) (dv_ v (st1_ v 32 (st1_ v 35 (st1_ v 32 (p + 5, true))))) (dv_ v (st1_ v 32 (st1_ v 35 (st1_ v 32 (st1_ v 35 (st1_ v 32 (p + 5, true))))))) (fun y => absurd y h2f)
    refine ⟨M9, ?_, ?_⟩
    · rw [mv_is hl, Option.bind_some, e0, Option.bind_some, mv_is hl, Option.bind_some, e1, Option.bind_some]
      dsimp only
      unfold F_X6_order_B28 F_X6_order_B49
      rw [if_pos (show nI 3 ≠ 0 by decide)]
      rw [if_pos (by decide)]
      unfold F_X6_order_B70
      rw [mv_is hl, Option.bind_some, e2, Option.bind_some, mv_is hl, Option.bind_some, e3, Option.bind_some]
      dsimp only
      unfold F_X6_order_B80
      rw [if_neg (fun y => y (by decide)), mv_is hl, Option.bind_some, e4, Option.bind_some, mv_is hl, Option.bind_some, e5, Option.bind_some]
      exact e9
    · rw [efin] at r9
      exact r9
theorem m_rest4 (hl : ov_L 11 l h) (t : TV_ v f) (ms : Mq_ v f M1 (p + 5, true)) (fr : FR_ M M1) (e22 : M 0 22 = nI o) (ho : o < 16) : ∃ M', (if kb 8 ≤ nI 4 then F_X6_order_B28 (mv_ l M1 h) (l 0) (nI 4) (ki 0) (ki 0) (ki 0) else (fx_is (mv_ l M1 h) (l 0) 6).bind fun _ => (F_X6_blank (mv_ l M1 h) (l 0)).bind fun v64 => (fx_is v64 (l 0) 6).bind fun _ => (F_X6_digits v64 (l 0) (ki 1)).bind fun v67 => F_X6_order_B28 v67.2 (l 0) (nI 4) v67.1 (ki 0) (ki 0)) = some (mv_ l M' h) ∧ OR_ v f o p 4 M M' (if (rn_ v (rt_ 4) (p + 5)).2 = true then (oe_ v p 4, true) else rn_ v (rt_ 4) (p + 5)) := by
  rw [if_neg (show ¬ kb 8 ≤ nI 4 by decide)]
  obtain ⟨N0, e0, a0, f0⟩ := m_blank hl t ms
  obtain ⟨N1, e1, a1, f1⟩ := m_d1 hl t a0
  obtain ⟨N2, e2, a2, f2⟩ := m_blank hl t a1
  obtain ⟨N3, e3, a3, f3⟩ := m_d1 hl t a2
  have frA := (FR_t (FR_t (FR_t (FR_t fr f0) f1) f2) f3)
  have efin : (st1_ v 35 (st1_ v 32 (st1_ v 35 (st1_ v 32 (p + 5, true))))) = rn_ v (rt_ 4) (p + 5) := sts_t v (rt_ 4) (p + 5)
  by_cases hr : (rn_ v (rt_ 4) (p + 5)).2 = true
  · rw [if_pos hr]
    have o0 : ok1_ 32 (v (p + 5)) = true := rn_at v (rt_ 4) (p + 5) 0 (by rw [(rn_le v (rt_ 4) (p + 5)).2.2.mp hr]; show p + 5 + 0 < p + 5 + 4; omega)
    have o1 : ok1_ 35 (v (p + 6)) = true := rn_at v (rt_ 4) (p + 5) 1 (by rw [(rn_le v (rt_ 4) (p + 5)).2.2.mp hr]; show p + 5 + 1 < p + 5 + 4; omega)
    have o2 : ok1_ 32 (v (p + 7)) = true := rn_at v (rt_ 4) (p + 5) 2 (by rw [(rn_le v (rt_ 4) (p + 5)).2.2.mp hr]; show p + 5 + 2 < p + 5 + 4; omega)
    have o3 : ok1_ 35 (v (p + 8)) = true := rn_at v (rt_ 4) (p + 5) 3 (by rw [(rn_le v (rt_ 4) (p + 5)).2.2.mp hr]; show p + 5 + 3 < p + 5 + 4; omega)
    have s0 : st1_ v 32 (p + 5, true) = (p + 6, true) := st1_t o0
    have s1 : st1_ v 35 (p + 6, true) = (p + 7, true) := st1_t o1
    have s2 : st1_ v 32 (p + 7, true) = (p + 8, true) := st1_t o2
    have s3 : st1_ v 35 (p + 8, true) = (p + 9, true) := st1_t o3
    have hfin : (st1_ v 35 (st1_ v 32 (st1_ v 35 (st1_ v 32 (p + 5, true))))) = (p + 9, true) := by rw [s0, s1, s2, s3]
    have eo : oe_ v p 4 = p + 9 := if_neg (fun y => absurd y.1 (by decide))
    obtain ⟨M9, e9, r9⟩ := m_96 (p := p) (k := 4) hl a3 frA e22 ho (dv_ v (st1_ v 32 (p + 5, true))) (dv_ v (st1_ v 32 (st1_ v 35 (st1_ v 32 (p + 5, true))))) 0 (fun _ => ⟨by rw [s0, dv_t o1] <;> rfl, by rw [s0, s1, s2, dv_t o3] <;> rfl, by rfl⟩)
    · refine ⟨M9, ?_, ?_⟩
      · rw [mv_is hl, Option.bind_some, e0, Option.bind_some, mv_is hl, Option.bind_some, e1, Option.bind_some]
        dsimp only
        unfold F_X6_order_B28 F_X6_order_B49
        rw [if_pos (show nI 4 ≠ 0 by decide)]
        rw [if_neg (by decide), if_pos (by decide)]
        unfold F_X6_order_B70
        rw [mv_is hl, Option.bind_some, e2, Option.bind_some, mv_is hl, Option.bind_some, e3, Option.bind_some]
        dsimp only
        unfold F_X6_order_B80
        rw [if_pos (show nI 4 ≠ ki 3 by decide)]
        exact e9
      · rw [hfin] at r9
        rw [eo]
        exact r9
  · rw [if_neg hr]
    have h2f : ¬ (st1_ v 35 (st1_ v 32 (st1_ v 35 (st1_ v 32 (p + 5, true))))).2 = true := by rw [efin]; exact hr
    obtain ⟨M9, e9, r9⟩ := m_96 (p := p) (k := 4) hl a3 frA e22 ho (dv_ v (st1_ v 32 (p + 5, true))) (dv_ v (st1_ v 32 (st1_ v 35 (st1_ v 32 (p + 5, true))))) 0 (fun y => absurd y h2f)
    refine ⟨M9, ?_, ?_⟩
    · rw [mv_is hl, Option.bind_some, e0, Option.bind_some, mv_is hl, Option.bind_some, e1, Option.bind_some]
      dsimp only
      unfold F_X6_order_B28 F_X6_order_B49
      rw [if_pos (show nI 4 ≠ 0 by decide)]
      rw [if_neg (by decide), if_pos (by decide)]
      unfold F_X6_order_B70
      rw [mv_is hl, Option.bind_some, e2, Option.bind_some, mv_is hl, Option.bind_some, e3, Option.bind_some]
      dsimp only
      unfold F_X6_order_B80
      rw [if_pos (show nI 4 ≠ ki 3 by decide)]
      exact e9
    · rw [efin] at r9
      exact r9
theorem m_rest5 (hl : ov_L 11 l h) (t : TV_ v f) (ms : Mq_ v f M1 (p + 4, true)) (fr : FR_ M M1) (e22 : M 0 22 = nI o) (ho : o < 16) : ∃ M', (if kb 8 ≤ nI 5 then F_X6_order_B28 (mv_ l M1 h) (l 0) (nI 5) (ki 0) (ki 0) (ki 0) else (fx_is (mv_ l M1 h) (l 0) 6).bind fun _ => (F_X6_blank (mv_ l M1 h) (l 0)).bind fun v64 => (fx_is v64 (l 0) 6).bind fun _ => (F_X6_digits v64 (l 0) (ki 1)).bind fun v67 => F_X6_order_B28 v67.2 (l 0) (nI 5) v67.1 (ki 0) (ki 0)) = some (mv_ l M' h) ∧ OR_ v f o p 5 M M' (if (rn_ v (rt_ 5) (p + 4)).2 = true then (oe_ v p 5, true) else rn_ v (rt_ 5) (p + 4)) := by
  rw [if_neg (show ¬ kb 8 ≤ nI 5 by decide)]
  obtain ⟨N0, e0, a0, f0⟩ := m_blank hl t ms
  obtain ⟨N1, e1, a1, f1⟩ := m_d1 hl t a0
  obtain ⟨N2, e2, a2, f2⟩ := m_blank hl t a1
  obtain ⟨N3, e3, a3, f3⟩ := m_d1 hl t a2
  have frA := (FR_t (FR_t (FR_t (FR_t fr f0) f1) f2) f3)
  have efin : (st1_ v 35 (st1_ v 32 (st1_ v 35 (st1_ v 32 (p + 4, true))))) = rn_ v (rt_ 5) (p + 4) := sts_t v (rt_ 5) (p + 4)
  by_cases hr : (rn_ v (rt_ 5) (p + 4)).2 = true
  · rw [if_pos hr]
    have o0 : ok1_ 32 (v (p + 4)) = true := rn_at v (rt_ 5) (p + 4) 0 (by rw [(rn_le v (rt_ 5) (p + 4)).2.2.mp hr]; show p + 4 + 0 < p + 4 + 4; omega)
    have o1 : ok1_ 35 (v (p + 5)) = true := rn_at v (rt_ 5) (p + 4) 1 (by rw [(rn_le v (rt_ 5) (p + 4)).2.2.mp hr]; show p + 4 + 1 < p + 4 + 4; omega)
    have o2 : ok1_ 32 (v (p + 6)) = true := rn_at v (rt_ 5) (p + 4) 2 (by rw [(rn_le v (rt_ 5) (p + 4)).2.2.mp hr]; show p + 4 + 2 < p + 4 + 4; omega)
    have o3 : ok1_ 35 (v (p + 7)) = true := rn_at v (rt_ 5) (p + 4) 3 (by rw [(rn_le v (rt_ 5) (p + 4)).2.2.mp hr]; show p + 4 + 3 < p + 4 + 4; omega)
    have s0 : st1_ v 32 (p + 4, true) = (p + 5, true) := st1_t o0
    have s1 : st1_ v 35 (p + 5, true) = (p + 6, true) := st1_t o1
    have s2 : st1_ v 32 (p + 6, true) = (p + 7, true) := st1_t o2
    have s3 : st1_ v 35 (p + 7, true) = (p + 8, true) := st1_t o3
    have hfin : (st1_ v 35 (st1_ v 32 (st1_ v 35 (st1_ v 32 (p + 4, true))))) = (p + 8, true) := by rw [s0, s1, s2, s3]
    have eo : oe_ v p 5 = p + 8 := if_neg (fun y => absurd y.1 (by decide))
    obtain ⟨M9, e9, r9⟩ := m_96 (p := p) (k := 5) hl a3 frA e22 ho (dv_ v (st1_ v 32 (p + 4, true))) (dv_ v (st1_ v 32 (st1_ v 35 (st1_ v 32 (p + 4, true))))) 0 (fun _ => ⟨by rw [s0, dv_t o1] <;> rfl, by rw [s0, s1, s2, dv_t o3] <;> rfl, by rfl⟩)
    · refine ⟨M9, ?_, ?_⟩
      · rw [mv_is hl, Option.bind_some, e0, Option.bind_some, mv_is hl, Option.bind_some, e1, Option.bind_some]
        dsimp only
        unfold F_X6_order_B28 F_X6_order_B49
        rw [if_pos (show nI 5 ≠ 0 by decide)]
        rw [if_neg (by decide), if_neg (by decide), if_pos (by decide)]
        unfold F_X6_order_B70
        rw [mv_is hl, Option.bind_some, e2, Option.bind_some, mv_is hl, Option.bind_some, e3, Option.bind_some]
        dsimp only
        unfold F_X6_order_B80
        rw [if_pos (show nI 5 ≠ ki 3 by decide)]
        exact e9
      · rw [hfin] at r9
        rw [eo]
        exact r9
  · rw [if_neg hr]
    have h2f : ¬ (st1_ v 35 (st1_ v 32 (st1_ v 35 (st1_ v 32 (p + 4, true))))).2 = true := by rw [efin]; exact hr
    obtain ⟨M9, e9, r9⟩ := m_96 (p := p) (k := 5) hl a3 frA e22 ho (dv_ v (st1_ v 32 (p + 4, true))) (dv_ v (st1_ v 32 (st1_ v 35 (st1_ v 32 (p + 4, true))))) 0 (fun y => absurd y h2f)
    refine ⟨M9, ?_, ?_⟩
    · rw [mv_is hl, Option.bind_some, e0, Option.bind_some, mv_is hl, Option.bind_some, e1, Option.bind_some]
      dsimp only
      unfold F_X6_order_B28 F_X6_order_B49
      rw [if_pos (show nI 5 ≠ 0 by decide)]
      rw [if_neg (by decide), if_neg (by decide), if_pos (by decide)]
      unfold F_X6_order_B70
      rw [mv_is hl, Option.bind_some, e2, Option.bind_some, mv_is hl, Option.bind_some, e3, Option.bind_some]
      dsimp only
      unfold F_X6_order_B80
      rw [if_pos (show nI 5 ≠ ki 3 by decide)]
      exact e9
    · rw [efin] at r9
      exact r9
theorem m_rest6 (hl : ov_L 11 l h) (t : TV_ v f) (ms : Mq_ v f M1 (p + 4, true)) (fr : FR_ M M1) (e22 : M 0 22 = nI o) (ho : o < 16) : ∃ M', (if kb 8 ≤ nI 6 then F_X6_order_B28 (mv_ l M1 h) (l 0) (nI 6) (ki 0) (ki 0) (ki 0) else (fx_is (mv_ l M1 h) (l 0) 6).bind fun _ => (F_X6_blank (mv_ l M1 h) (l 0)).bind fun v64 => (fx_is v64 (l 0) 6).bind fun _ => (F_X6_digits v64 (l 0) (ki 1)).bind fun v67 => F_X6_order_B28 v67.2 (l 0) (nI 6) v67.1 (ki 0) (ki 0)) = some (mv_ l M' h) ∧ OR_ v f o p 6 M M' (if (rn_ v (rt_ 6) (p + 4)).2 = true then (oe_ v p 6, true) else rn_ v (rt_ 6) (p + 4)) := by
  rw [if_neg (show ¬ kb 8 ≤ nI 6 by decide)]
  obtain ⟨N0, e0, a0, f0⟩ := m_blank hl t ms
  obtain ⟨N1, e1, a1, f1⟩ := m_d1 hl t a0
  have frA := (FR_t (FR_t fr f0) f1)
  have efin : (st1_ v 35 (st1_ v 32 (p + 4, true))) = rn_ v (rt_ 6) (p + 4) := sts_t v (rt_ 6) (p + 4)
  by_cases hr : (rn_ v (rt_ 6) (p + 4)).2 = true
  · rw [if_pos hr]
    have o0 : ok1_ 32 (v (p + 4)) = true := rn_at v (rt_ 6) (p + 4) 0 (by rw [(rn_le v (rt_ 6) (p + 4)).2.2.mp hr]; show p + 4 + 0 < p + 4 + 2; omega)
    have o1 : ok1_ 35 (v (p + 5)) = true := rn_at v (rt_ 6) (p + 4) 1 (by rw [(rn_le v (rt_ 6) (p + 4)).2.2.mp hr]; show p + 4 + 1 < p + 4 + 2; omega)
    have s0 : st1_ v 32 (p + 4, true) = (p + 5, true) := st1_t o0
    have s1 : st1_ v 35 (p + 5, true) = (p + 6, true) := st1_t o1
    have hfin : (st1_ v 35 (st1_ v 32 (p + 4, true))) = (p + 6, true) := by rw [s0, s1]
    have eo : oe_ v p 6 = p + 6 := if_neg (fun y => absurd y.1 (by decide))
    obtain ⟨M9, e9, r9⟩ := m_96 (p := p) (k := 6) hl a1 frA e22 ho (dv_ v (st1_ v 32 (p + 4, true))) 0 0 (fun _ => ⟨by rw [s0, dv_t o1] <;> rfl, by rfl, by rfl⟩)
    · refine ⟨M9, ?_, ?_⟩
      · rw [mv_is hl, Option.bind_some, e0, Option.bind_some, mv_is hl, Option.bind_some, e1, Option.bind_some]
        dsimp only
        unfold F_X6_order_B28 F_X6_order_B49
        rw [if_pos (show nI 6 ≠ 0 by decide)]
        unfold F_X6_order_B80
        rw [if_neg (by decide), if_neg (by decide), if_neg (by decide), if_pos (show nI 6 ≠ kb 7 by decide), if_pos (show nI 6 ≠ ki 3 by decide)]
        exact e9
      · rw [hfin] at r9
        rw [eo]
        exact r9
  · rw [if_neg hr]
    have h2f : ¬ (st1_ v 35 (st1_ v 32 (p + 4, true))).2 = true := by rw [efin]; exact hr
    obtain ⟨M9, e9, r9⟩ := m_96 (p := p) (k := 6) hl a1 frA e22 ho (dv_ v (st1_ v 32 (p + 4, true))) 0 0 (fun y => absurd y h2f)
    refine ⟨M9, ?_, ?_⟩
    · rw [mv_is hl, Option.bind_some, e0, Option.bind_some, mv_is hl, Option.bind_some, e1, Option.bind_some]
      dsimp only
      unfold F_X6_order_B28 F_X6_order_B49
      rw [if_pos (show nI 6 ≠ 0 by decide)]
      unfold F_X6_order_B80
      rw [if_neg (by decide), if_neg (by decide), if_neg (by decide), if_pos (show nI 6 ≠ kb 7 by decide), if_pos (show nI 6 ≠ ki 3 by decide)]
      exact e9
    · rw [efin] at r9
      exact r9
theorem m_rest7 (hl : ov_L 11 l h) (t : TV_ v f) (ms : Mq_ v f M1 (p + 4, true)) (fr : FR_ M M1) (e22 : M 0 22 = nI o) (ho : o < 16) : ∃ M', (if kb 8 ≤ nI 7 then F_X6_order_B28 (mv_ l M1 h) (l 0) (nI 7) (ki 0) (ki 0) (ki 0) else (fx_is (mv_ l M1 h) (l 0) 6).bind fun _ => (F_X6_blank (mv_ l M1 h) (l 0)).bind fun v64 => (fx_is v64 (l 0) 6).bind fun _ => (F_X6_digits v64 (l 0) (ki 1)).bind fun v67 => F_X6_order_B28 v67.2 (l 0) (nI 7) v67.1 (ki 0) (ki 0)) = some (mv_ l M' h) ∧ OR_ v f o p 7 M M' (if (rn_ v (rt_ 7) (p + 4)).2 = true then (oe_ v p 7, true) else rn_ v (rt_ 7) (p + 4)) := by
  rw [if_neg (show ¬ kb 8 ≤ nI 7 by decide)]
  obtain ⟨N0, e0, a0, f0⟩ := m_blank hl t ms
  obtain ⟨N1, e1, a1, f1⟩ := m_d1 hl t a0
  obtain ⟨N2, e2, a2, f2⟩ := m_blank hl t a1
  obtain ⟨N3, e3, a3, f3⟩ := m_d1 hl t a2
  have frA := (FR_t (FR_t (FR_t (FR_t fr f0) f1) f2) f3)
  have efin : (st1_ v 35 (st1_ v 32 (st1_ v 35 (st1_ v 32 (p + 4, true))))) = rn_ v (rt_ 7) (p + 4) := sts_t v (rt_ 7) (p + 4)
  by_cases hr : (rn_ v (rt_ 7) (p + 4)).2 = true
  · rw [if_pos hr]
    have o0 : ok1_ 32 (v (p + 4)) = true := rn_at v (rt_ 7) (p + 4) 0 (by rw [(rn_le v (rt_ 7) (p + 4)).2.2.mp hr]; show p + 4 + 0 < p + 4 + 4; omega)
    have o1 : ok1_ 35 (v (p + 5)) = true := rn_at v (rt_ 7) (p + 4) 1 (by rw [(rn_le v (rt_ 7) (p + 4)).2.2.mp hr]; show p + 4 + 1 < p + 4 + 4; omega)
    have o2 : ok1_ 32 (v (p + 6)) = true := rn_at v (rt_ 7) (p + 4) 2 (by rw [(rn_le v (rt_ 7) (p + 4)).2.2.mp hr]; show p + 4 + 2 < p + 4 + 4; omega)
    have o3 : ok1_ 35 (v (p + 7)) = true := rn_at v (rt_ 7) (p + 4) 3 (by rw [(rn_le v (rt_ 7) (p + 4)).2.2.mp hr]; show p + 4 + 3 < p + 4 + 4; omega)
    have s0 : st1_ v 32 (p + 4, true) = (p + 5, true) := st1_t o0
    have s1 : st1_ v 35 (p + 5, true) = (p + 6, true) := st1_t o1
    have s2 : st1_ v 32 (p + 6, true) = (p + 7, true) := st1_t o2
    have s3 : st1_ v 35 (p + 7, true) = (p + 8, true) := st1_t o3
    have hfin : (st1_ v 35 (st1_ v 32 (st1_ v 35 (st1_ v 32 (p + 4, true))))) = (p + 8, true) := by rw [s0, s1, s2, s3]
    have eo : oe_ v p 7 = p + 8 := if_neg (fun y => absurd y.1 (by decide))
    obtain ⟨M9, e9, r9⟩ := m_96 (p := p) (k := 7) hl a3 frA e22 ho (dv_ v (st1_ v 32 (p + 4, true))) (dv_ v (st1_ v 32 (st1_ v 35 (st1_ v 32 (p + 4, true))))) 0 (fun _ => ⟨by rw [s0, dv_t o1] <;> rfl, by rw [s0, s1, s2, dv_t o3] <;> rfl, by rfl⟩)
    · refine ⟨M9, ?_, ?_⟩
      · rw [mv_is hl, Option.bind_some, e0, Option.bind_some, mv_is hl, Option.bind_some, e1, Option.bind_some]
        dsimp only
        unfold F_X6_order_B28 F_X6_order_B49
        rw [if_pos (show nI 7 ≠ 0 by decide)]
        rw [if_neg (by decide), if_neg (by decide), if_neg (by decide), if_neg (fun y => y (by decide))]
        unfold F_X6_order_B70
        rw [mv_is hl, Option.bind_some, e2, Option.bind_some, mv_is hl, Option.bind_some, e3, Option.bind_some]
        dsimp only
        unfold F_X6_order_B80
        rw [if_pos (show nI 7 ≠ ki 3 by decide)]
        exact e9
      · rw [hfin] at r9
        rw [eo]
        exact r9
  · rw [if_neg hr]
    have h2f : ¬ (st1_ v 35 (st1_ v 32 (st1_ v 35 (st1_ v 32 (p + 4, true))))).2 = true := by rw [efin]; exact hr
    obtain ⟨M9, e9, r9⟩ := m_96 (p := p) (k := 7) hl a3 frA e22 ho (dv_ v (st1_ v 32 (p + 4, true))) (dv_ v (st1_ v 32 (st1_ v 35 (st1_ v 32 (p + 4, true))))) 0 (fun y => absurd y h2f)
    refine ⟨M9, ?_, ?_⟩
    · rw [mv_is hl, Option.bind_some, e0, Option.bind_some, mv_is hl, Option.bind_some, e1, Option.bind_some]
      dsimp only
      unfold F_X6_order_B28 F_X6_order_B49
      rw [if_pos (show nI 7 ≠ 0 by decide)]
      rw [if_neg (by decide), if_neg (by decide), if_neg (by decide), if_neg (fun y => y (by decide))]
      unfold F_X6_order_B70
      rw [mv_is hl, Option.bind_some, e2, Option.bind_some, mv_is hl, Option.bind_some, e3, Option.bind_some]
      dsimp only
      unfold F_X6_order_B80
      rw [if_pos (show nI 7 ≠ ki 3 by decide)]
      exact e9
    · rw [efin] at r9
      exact r9
theorem m_rest8 (hl : ov_L 11 l h) (t : TV_ v f) (ms : Mq_ v f M1 (p + 3, true)) (fr : FR_ M M1) (e22 : M 0 22 = nI o) (ho : o < 16) : ∃ M', (if kb 8 ≤ nI 8 then F_X6_order_B28 (mv_ l M1 h) (l 0) (nI 8) (ki 0) (ki 0) (ki 0) else (fx_is (mv_ l M1 h) (l 0) 6).bind fun _ => (F_X6_blank (mv_ l M1 h) (l 0)).bind fun v64 => (fx_is v64 (l 0) 6).bind fun _ => (F_X6_digits v64 (l 0) (ki 1)).bind fun v67 => F_X6_order_B28 v67.2 (l 0) (nI 8) v67.1 (ki 0) (ki 0)) = some (mv_ l M' h) ∧ OR_ v f o p 8 M M' (if (rn_ v (rt_ 8) (p + 3)).2 = true then (oe_ v p 8, true) else rn_ v (rt_ 8) (p + 3)) := by
  have hr : (rn_ v (rt_ 8) (p + 3)).2 = true := rfl
  rw [if_pos hr, if_pos (show kb 8 ≤ nI 8 by decide)]
  obtain ⟨M9, e9, r9⟩ := m_96 (p := p) (k := 8) hl ms fr e22 ho 0 0 0 (fun _ => ⟨rfl, rfl, rfl⟩)
  refine ⟨M9, ?_, ?_⟩
  · unfold F_X6_order_B28 F_X6_order_B49 F_X6_order_B80
    rw [if_pos (show nI 8 ≠ 0 by decide), if_neg (by decide), if_neg (by decide), if_neg (by decide), if_pos (show nI 8 ≠ kb 7 by decide), if_pos (show nI 8 ≠ ki 3 by decide)]
    exact e9
  · have eo : oe_ v p 8 = p + 3 := if_neg (fun y => absurd y.1 (by decide))
    rw [eo]
    exact r9
end MO

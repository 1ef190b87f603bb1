section KL
variable {X : mm_Cl} {S : Nat → Nat} {d : Nat}
theorem ct_sI {y pc a b N c k : Nat} {Q : mm_Re → Prop} {K : List mm_E} {ls : mm_L} {h : mm_S} {rest : List Value} {q i ci : Nat} {A : Nat → Nat} {C : Nat → mm_Ce} {fs : List Value} (hX : mm_mono X) {j x : Int32} {p n : Nat} {f : Nat → Int32} (jn : Nat) (cd : mm_cd y = K) (hf : mm_find K pc = some (.iastore, a, b)) (hW : W_ N A (va_up C i (.inr (ci, fs))) h) (hp : p < N) (hpi : p ≠ i) (hq : A p = q) (hC : C p = .inl (0, n, .inl f)) (hj : j = nI jn) (hjn : jn < n) (hn : n < 2 ^ 30)
    (g : ∀ h2, W_ N A (va_up (va_up C p (.inl (0, n, .inl (upd f jn x)))) i (.inr (ci, fs))) h2 → mm_Ex (mm_Run X d) y Q (pc + 1, rest, ls, h2) c k) : mm_Ex (mm_Run X d) y Q (pc, .int x :: .int j :: .ref q :: rest, ls, h) c k := by
  subst hq; subst hj
  have e1 : h.2 (A p) = .inl (0, n, .inl f) := by rw [hW.2.2 p hp, va_up_ne _ _ hpi, hC]
  refine go_sI hX (h2 := mm_put h (A p) (.inl (0, n, .inl (upd f jn x)))) cd hf ?_ (g _ ?_)
  · unfold fx_sI fx_arI
    rw [if_pos (hW.1 p hp), e1]
    show (if fx_in (nI jn) n = true then some (mm_put h (A p) (.inl (0, n, .inl (upd f (nI jn).toNatClampNeg x)))) else none) = _
    rw [if_pos (fx_in_nI hjn (by omega)), nI_clamp (by omega)]
  · have h1 := W_put1 hW hp (c := .inl (0, n, .inl (upd f jn x)))
    rw [up_comm (Ne.symm hpi)] at h1
    exact h1
theorem k_ge {r n : Nat} {v : Int32} (e : v = nI n) (hr : r < n) (hn : n < 2 ^ 30) : ¬ v ≤ nI r := by
  subst e
  exact Int32.not_le.mpr (nI_lt hr (by omega))
section KM
variable {c k M : Nat} {Q : mm_Re → Prop} {h : mm_S} {o i p r : Nat} {A : Nat → Nat} {C : Nat → mm_Ce} {fs : List Value} {f : Nat → Int32}
theorem k_M1 (hX : mm_mono X) (hr : r < 2) (hW : W_ M A (va_up C i (.inr (6, fs))) h) (hp : p < M) (hpi : p ≠ i) (hi : i < M) (ho : A i = o) (h0 : fs[0]? = some (.ref (A p))) (hC : C p = .inl (0, 110, .inl f))
    (g : ∀ h2, W_ M A (va_up (va_up C p (.inl (0, 110, .inl (upd (upd f (12 + 5 * r) (kb 30)) (13 + 5 * r) (nI r))))) i (.inr (6, fs))) h2 → mm_Ex (mm_Run X d) 123 Q (167, [], [(1, .int (nI (r + 1))), (0, .ref o)], h2) c k) : mm_Ex (mm_Run X d) 123 Q (167, [], [(1, .int (nI r)), (0, .ref o)], h) c k := by
  have e2 : ki 2 = nI 2 := by decide
  refine go_adv hX c_123 2 (F2 := (169, [.int (ki 2), .int (nI r)], [(1, .int (nI r)), (0, .ref o)], h)) rfl ?_
  refine go_cf hX c_123 rfl (by decide) (k_ge e2 hr (by decide)) ?_
  refine go_adv hX c_123 1 (F2 := (173, [.ref o], [(1, .int (nI r)), (0, .ref o)], h)) rfl ?_
  refine ct_gR hX c_123 rfl hW hi ho h0 ?_
  refine go_adv hX c_123 7 (F2 := (184, [.int (kb 12 + ki 5 * nI r + ki 0), .ref (A p)], [(1, .int (nI r)), (0, .ref o)], h)) rfl ?_
  refine go_adv hX c_123 1 (F2 := (186, [.int (kb 30), .int (kb 12 + ki 5 * nI r + ki 0), .ref (A p)], [(1, .int (nI r)), (0, .ref o)], h)) rfl ?_
  refine ct_sI hX (12 + 5 * r) c_123 rfl hW hp hpi rfl hC ?_ (by omega) (by decide) fun g1 W1 => ?_
  · match r, hr with
    | 0, _ => decide
    | 1, _ => decide
  refine go_adv hX c_123 1 (F2 := (188, [.ref o], [(1, .int (nI r)), (0, .ref o)], g1)) rfl ?_
  refine ct_gR hX c_123 rfl W1 hi ho h0 ?_
  refine go_adv hX c_123 8 (F2 := (200, [.int (nI r), .int (kb 12 + ki 5 * nI r + ki 1), .ref (A p)], [(1, .int (nI r)), (0, .ref o)], g1)) rfl ?_
  refine ct_sI hX (13 + 5 * r) c_123 rfl W1 hp hpi rfl (va_up_self _ _ _) ?_ (by omega) (by decide) fun g2 W2 => ?_
  · match r, hr with
    | 0, _ => decide
    | 1, _ => decide
  refine go_adv hX c_123 1 (F2 := (204, [], [(1, .int (nI r + ki 1)), (0, .ref o)], g2)) rfl ?_
  refine go_to hX 167 c_123 rfl rfl ?_
  rw [nI_s]
  rw [bx_uu] at W2
  exact g g2 W2
theorem k_M2 (hX : mm_mono X) (hp : p < M) (hpi : p ≠ i) (hi : i < M) (ho : A i = o) (h0 : fs[0]? = some (.ref (A p))) : ∀ (n r : Nat), r + n = 8 → ∀ (C : Nat → mm_Ce) (h : mm_S) (f : Nat → Int32), W_ M A (va_up C i (.inr (6, fs))) h → C p = .inl (0, 110, .inl f) →
    (∀ h2 f2, (∀ s, s < 8 → r ≤ s → f2 (24 + s) = if s < 2 then nI s else ki 2) → (∀ q, (q < 24 + r ∨ 32 ≤ q) → f2 q = f q) → W_ M A (va_up (va_up C p (.inl (0, 110, .inl f2))) i (.inr (6, fs))) h2 → mm_Ex (mm_Run X d) 123 Q (240, [], [(1, .int (nI 8)), (0, .ref o)], h2) c k) →
    mm_Ex (mm_Run X d) 123 Q (209, [], [(1, .int (nI r)), (0, .ref o)], h) c k
  | 0, r, hr, C, h, f, hW, hC, g => by
    have e : r = 8 := by omega
    subst e
    refine go_adv hX c_123 2 (F2 := (212, [.int (kb 8), .int (nI 8)], [(1, .int (nI 8)), (0, .ref o)], h)) rfl ?_
    refine go_ct hX 240 c_123 rfl rfl (show kb 8 ≤ nI 8 by decide) ?_
    refine g h f (fun s h1 h2 => by omega) (fun _ _ => rfl) (W_cg hW fun j hj => ?_)
    unfold va_up
    by_cases e1 : j = i
    · rw [if_pos e1, if_pos e1]
    · rw [if_neg e1, if_neg e1]
      split
      · next e2 => rw [e2, hC]
      · rfl
  | n + 1, r, hr, C, h, f, hW, hC, g => by
    have e8 : kb 8 = nI 8 := by decide
    refine go_adv hX c_123 2 (F2 := (212, [.int (kb 8), .int (nI r)], [(1, .int (nI r)), (0, .ref o)], h)) rfl ?_
    refine go_cf hX c_123 rfl (by decide) (k_ge e8 (by omega) (by decide)) ?_
    refine go_adv hX c_123 1 (F2 := (216, [.ref o], [(1, .int (nI r)), (0, .ref o)], h)) rfl ?_
    refine ct_gR hX c_123 rfl hW hi ho h0 ?_
    refine go_adv hX c_123 5 (F2 := (225, [.int (ki 2), .int (nI r), .int (kb 24 + nI r), .ref (A p)], [(1, .int (nI r)), (0, .ref o)], h)) rfl ?_
    have key : mm_Ex (mm_Run X d) 123 Q (233, [.int (if r < 2 then nI r else ki 2), .int (kb 24 + nI r), .ref (A p)], [(1, .int (nI r)), (0, .ref o)], h) c k := by
      refine ct_sI hX (24 + r) c_123 rfl hW hp hpi rfl hC ?_ (by omega) (by decide) fun g1 W1 => ?_
      · have e24 : kb 24 = nI 24 := by decide
        rw [e24, nI_add]
      refine go_adv hX c_123 1 (F2 := (237, [], [(1, .int (nI r + ki 1)), (0, .ref o)], g1)) rfl ?_
      refine go_to hX 209 c_123 rfl rfl ?_
      rw [nI_s]
      refine k_M2 hX hp hpi hi ho h0 n (r + 1) (by omega) _ g1 _ W1 (va_up_self _ _ _) fun h2 f2 k1 k2 W2 => g h2 f2 (fun s h1 h2 => ?_) (fun q hq => ?_) (by rw [bx_uu] at W2; exact W2)
      · by_cases e : s = r
        · subst e
          rw [k2 (24 + s) (by omega)]
          exact if_pos rfl
        · exact k1 s h1 (by omega)
      · rw [k2 q (by omega)]
        exact if_neg (by omega)
    by_cases hr2 : r < 2
    · rw [if_pos hr2] at key
      have e2 : ki 2 = nI 2 := by decide
      refine go_cf hX c_123 rfl (by decide) (k_ge e2 hr2 (by decide)) ?_
      refine go_adv hX c_123 1 (F2 := (229, [.int (nI r), .int (kb 24 + nI r), .ref (A p)], [(1, .int (nI r)), (0, .ref o)], h)) rfl ?_
      refine go_to hX 233 c_123 rfl rfl key
    · rw [if_neg hr2] at key
      have e2 : ki 2 = nI 2 := by decide
      refine go_ct hX 232 c_123 rfl rfl (show ki 2 ≤ nI r from ?_) ?_
      · rw [e2]
        exact Int32.not_lt.mp fun z => hr2 ((nI_ltI (by omega) (by omega)).mp z)
      refine go_adv hX c_123 1 (F2 := (233, [.int (ki 2), .int (kb 24 + nI r), .ref (A p)], [(1, .int (nI r)), (0, .ref o)], h)) rfl key
end KM
end KL

section KT
variable {X : mm_Cl} {S : Nat → Nat} {d : Nat}
theorem aR_up {n r : Nat} {F : Nat → Nat} {q : Nat} (e : F r = q) : va_up (aR_ r F) r (some q) = aR_ (r + 1) F := by
  funext x
  unfold va_up aR_
  by_cases h1 : x = r
  · rw [if_pos h1, if_pos (by omega), h1, e]
  · rw [if_neg h1]
    by_cases h2 : x < r
    · rw [if_pos h2, if_pos (by omega)]
    · rw [if_neg h2, if_neg (by omega)]
theorem ct_sR {y pc a b N c k : Nat} {Q : mm_Re → Prop} {K : List mm_E} {ls : mm_L} {h : mm_S} {rest : List Value} {q qv i ci : Nat} {A : Nat → Nat} {C : Nat → mm_Ce} {fs : List Value} (hX : mm_mono X) {j : Int32} {p pv cv t n : Nat} {f : Nat → Option Nat} {gs : List Value} (jn : Nat) (cd : mm_cd y = K) (hf : mm_find K pc = some (.aastore, a, b)) (hW : W_ N A (va_up C i (.inr (ci, fs))) h) (hp : p < N) (hpi : p ≠ i) (hq : A p = q) (hC : C p = .inl (t, n, .inr (.inr (.inr (.inr f))))) (hj : j = nI jn) (hjn : jn < n) (hn : n < 2 ^ 30)
    (hv : pv < N) (hvi : pv ≠ i) (hqv : A pv = qv) (hCv : C pv = .inr (cv, gs)) (ht : 5 ≤ t ∧ t < 9) (hty : mm_tyl[t]? = some (.object (mm_C cv).1) ∧ cv < 8)
    (g : ∀ h2, W_ N A (va_up (va_up C p (.inl (t, n, .inr (.inr (.inr (.inr (va_up f jn (some qv)))))))) i (.inr (ci, fs))) h2 → mm_Ex (mm_Run X d) y Q (pc + 1, rest, ls, h2) c k) : mm_Ex (mm_Run X d) y Q (pc, .ref qv :: .int j :: .ref q :: rest, ls, h) c k := by
  subst hq; subst hj; subst hqv
  have e1 : h.2 (A p) = .inl (t, n, .inr (.inr (.inr (.inr f)))) := by rw [hW.2.2 p hp, va_up_ne _ _ hpi, hC]
  have e2 : h.2 (A pv) = .inr (cv, gs) := by rw [hW.2.2 pv hv, va_up_ne _ _ hvi, hCv]
  refine go_sR hX (h2 := mm_put h (A p) (.inl (t, n, .inr (.inr (.inr (.inr (va_up f jn (some (A pv)))))))) ) cd hf ?_ (g _ ?_)
  · unfold fx_sR fx_arR
    rw [if_pos (hW.1 p hp), e1]
    show ((if 5 ≤ t ∧ t < 9 then some (t, n, f) else none).bind _) = _
    rw [if_pos ht]
    show (if fx_in (nI jn) n = true ∧ A pv ∈ h.1 then _ else none) = _
    rw [if_pos ⟨fx_in_nI hjn (by omega), hW.1 pv hv⟩, e2]
    show (if mm_tyl[t]? = some (.object (mm_C cv).1) ∧ cv < 8 then some (mm_put h (A p) (.inl (t, n, .inr (.inr (.inr (.inr (va_up f (nI jn).toNatClampNeg (some (A pv))))))))) else none) = _
    rw [if_pos hty, nI_clamp (by omega)]
  · have h1 := W_put1 hW hp (c := .inl (t, n, .inr (.inr (.inr (.inr (va_up f jn (some (A pv))))))))
    rw [up_comm (Ne.symm hpi)] at h1
    exact h1
variable {c k M : Nat} {Q : mm_Re → Prop} {h : mm_S} {o i p r : Nat} {A : Nat → Nat} {C : Nat → mm_Ce} {fs : List Value}
theorem k_T1 (hX : mm_mono X) (hp : p < M) (hpi : p ≠ i) (hi : i < M) (ho : A i = o) (h0 : fs[1]? = some (.ref (A p))) : ∀ (n r : Nat), r + n = 8 → ∀ (C : Nat → mm_Ce) (h : mm_S) (f : Nat → Int32), W_ M A (va_up C i (.inr (3, fs))) h → C p = .inl (0, 8, .inl f) →
    (∀ h2 f2, (∀ s, s < 8 → r ≤ s → f2 s = ki 2) → (∀ q, (q < r ∨ 8 ≤ q) → f2 q = f q) → W_ M A (va_up (va_up C p (.inl (0, 8, .inl f2))) i (.inr (3, fs))) h2 → mm_Ex (mm_Run X d) 22 Q (85, [], [(1, .int (nI 8)), (0, .ref o)], h2) c k) →
    mm_Ex (mm_Run X d) 22 Q (66, [], [(1, .int (nI r)), (0, .ref o)], h) c k
  | 0, r, hr, C, h, f, hW, hC, g => by
    have e : r = 8 := by omega
    subst e
    refine go_adv hX c_22 2 (F2 := (69, [.int (kb 8), .int (nI 8)], [(1, .int (nI 8)), (0, .ref o)], h)) rfl ?_
    refine go_ct hX 85 c_22 rfl rfl (show kb 8 ≤ nI 8 by decide) ?_
    refine g h f (fun s h1 h2 => by omega) (fun _ _ => rfl) (W_cg hW fun j hj => ?_)
    unfold va_up
    by_cases e1 : j = i
    · rw [if_pos e1, if_pos e1]
    · rw [if_neg e1, if_neg e1]
      split
      · next e2 => rw [e2, hC]
      · rfl
  | n + 1, r, hr, C, h, f, hW, hC, g => by
    have e8 : kb 8 = nI 8 := by decide
    refine go_adv hX c_22 2 (F2 := (69, [.int (kb 8), .int (nI r)], [(1, .int (nI r)), (0, .ref o)], h)) rfl ?_
    refine go_cf hX c_22 rfl (by decide) (k_ge e8 (by omega) (by decide)) ?_
    refine go_adv hX c_22 1 (F2 := (73, [.ref o], [(1, .int (nI r)), (0, .ref o)], h)) rfl ?_
    refine ct_gR hX c_22 rfl hW hi ho h0 ?_
    refine go_adv hX c_22 2 (F2 := (78, [.int (ki 2), .int (nI r), .ref (A p)], [(1, .int (nI r)), (0, .ref o)], h)) rfl ?_
    refine ct_sI hX r c_22 rfl hW hp hpi rfl hC rfl (by omega) (by decide) fun g1 W1 => ?_
    refine go_adv hX c_22 1 (F2 := (82, [], [(1, .int (nI r + ki 1)), (0, .ref o)], g1)) rfl ?_
    refine go_to hX 66 c_22 rfl rfl ?_
    rw [nI_s]
    refine k_T1 hX hp hpi hi ho h0 n (r + 1) (by omega) _ g1 _ W1 (va_up_self _ _ _) fun h2 f2 k1 k2 W2 => g h2 f2 (fun s h1 h2 => ?_) (fun q hq => ?_) (by rw [bx_uu] at W2; exact W2)
    · by_cases e : s = r
      · subst e
        rw [k2 s (by omega)]
        exact if_pos rfl
      · exact k1 s h1 (by omega)
    · rw [k2 q (by omega)]
      exact if_neg (by omega)
/-- one giant -/
theorem k_T2 {pa pn qa qn : Nat} {f : Nat → Int32} (hX : mm_mono X) (hr : r < 2) (hpa : pa < M) (hpn : pn < M) (hpai : pa ≠ i) (hpni : pn ≠ i) (hpp : pa ≠ pn) (hi : i < M) (hW : W_ M A (va_up C i (.inr (3, fs))) h) (ho : A i = o) (ha : A pa = qa) (hn : A pn = qn) (h0 : fs[0]? = some (.ref qa)) (h1 : fs[1]? = some (.ref qn)) {R : Nat → Option Nat} (hCa : C pa = .inl (5, 2, .inr (.inr (.inr (.inr R))))) (hCn : C pn = .inl (0, 8, .inl f)) (hc : 1 ≤ c) (hk : 5 ≤ k)
    (g : ∀ A2 C2 h2, (∀ j, j < M → A2 j = A j) → (∀ j, j < M → j ≠ pa → j ≠ pn → C2 j = C j) → C2 pa = .inl (5, 2, .inr (.inr (.inr (.inr (va_up R r (some (A2 M))))))) → C2 pn = .inl (0, 8, .inl (upd f r (nI r))) → C2 M = .inr (0, [.int (kb 30), .int (nI r), .int (ki 0), .int (ki 0), .int (ki 0)]) → W_ (M + 1) A2 (va_up C2 i (.inr (3, fs))) h2 → mm_Ex (mm_Run X (d + 1)) 22 Q (87, [], [(1, .int (nI (r + 1))), (0, .ref o)], h2) (c - 1) (k - 5)) :
    mm_Ex (mm_Run X (d + 1)) 22 Q (87, [], [(1, .int (nI r)), (0, .ref o)], h) c k := by
  have e2 : ki 2 = nI 2 := by decide
  refine go_adv hX c_22 2 (F2 := (89, [.int (ki 2), .int (nI r)], [(1, .int (nI r)), (0, .ref o)], h)) rfl ?_
  refine go_cf hX c_22 rfl (by decide) (k_ge e2 hr (by decide)) ?_
  refine go_adv hX c_22 1 (F2 := (93, [.ref o], [(1, .int (nI r)), (0, .ref o)], h)) rfl ?_
  refine ct_gR hX c_22 rfl hW hi ho h0 ?_
  refine go_adv hX c_22 1 (F2 := (97, [.int (nI r), .ref qa], [(1, .int (nI r)), (0, .ref o)], h)) rfl ?_
  refine ct_new hX 5 c_22 rfl rfl hc hk hW hi fun A1 g1 E1 W1 => ?_
  refine go_p hX c_22 rfl rfl rfl ?_
  refine go_adv hX c_22 1 (F2 := (102, [.int (nI r), .ref (A1 M), .ref (A1 M), .int (nI r), .ref qa], [(1, .int (nI r)), (0, .ref o)], g1)) rfl ?_
  refine ct_call (N := M) (As := [.int (nI r)]) (mc := 0) (ms := 0) (n := 0) hX (k_G hX) c_22 rfl (by decide) (Nat.le_of_ble_eq_true rfl) rfl rfl (Nat.le_of_ble_eq_true rfl) (Nat.zero_le _) (Nat.zero_le _) W1 hi fun A2 C2 g2 E2 D2 V2 W2 => ?_
  rw [show A1 M = A2 M from (E2 M (by omega)).symm]
  have hA : ∀ j, j < M → A2 j = A j := fun j hj => by rw [E2 j (by omega), E1 j hj]
  have V : C2 M = .inr (0, [.int (kb 30), .int (nI r), .int (ki 0), .int (ki 0), .int (ki 0)]) := V2 0 (by omega)
  refine ct_sR (pv := M) (cv := 0) hX r c_22 rfl W2 (show pa < M + (0 + 1) by omega) hpai ((hA pa hpa).trans ha) ((D2 pa hpa).trans hCa) rfl hr (by decide) (show M < M + (0 + 1) by omega) (by omega) rfl V (by decide) ⟨rfl, by decide⟩ fun g3 W3 => ?_
  refine go_adv hX c_22 1 (F2 := (107, [.ref o], [(1, .int (nI r)), (0, .ref o)], g3)) rfl ?_
  refine ct_gR hX c_22 rfl W3 (show i < M + (0 + 1) by omega) ((hA i hi).trans ho) h1 ?_
  refine go_adv hX c_22 2 (F2 := (112, [.int (nI r), .int (nI r), .ref qn], [(1, .int (nI r)), (0, .ref o)], g3)) rfl ?_
  refine ct_sI hX r c_22 rfl W3 (show pn < M + (0 + 1) by omega) hpni ((hA pn hpn).trans hn) (((va_up_ne _ _ (Ne.symm hpp)).trans (D2 pn hpn)).trans hCn) rfl (by omega) (by decide) fun g4 W4 => ?_
  refine go_adv hX c_22 1 (F2 := (116, [], [(1, .int (nI r + ki 1)), (0, .ref o)], g4)) rfl ?_
  refine go_to hX 87 c_22 rfl rfl ?_
  rw [nI_s]
  refine g A2 _ g4 hA (fun j hj h2 h3 => ?_) ?_ (va_up_self _ _ _) ?_ W4
  · rw [va_up_ne _ _ h3, va_up_ne _ _ h2, D2 j hj]
  · rw [va_up_ne _ _ hpp, va_up_self]
  · rw [va_up_ne _ _ (by omega), va_up_ne _ _ (by omega), V]
/-- the stairs -/
theorem k_T3 {b pa qa : Nat} (hX : mm_mono X) (hpab : pa < b) (hpai : pa ≠ i) (hi : i < b) (h2 : fs[2]? = some (.ref qa)) : ∀ (n r : Nat), r + n = 10 → ∀ (A : Nat → Nat) (C : Nat → mm_Ce) (h : mm_S) (c k : Nat), n ≤ c → 7 * n ≤ k → W_ (b + r) A (va_up C i (.inr (3, fs))) h → A i = o → A pa = qa → C pa = .inl (6, 10, .inr (.inr (.inr (.inr (aR_ r (fun j => A (b + j))))))) →
    (∀ A2 C2 h2, (∀ j, j < b + r → A2 j = A j) → (∀ j, j < b + r → j ≠ pa → C2 j = C j) → C2 pa = .inl (6, 10, .inr (.inr (.inr (.inr (aR_ 10 (fun j => A2 (b + j))))))) → (∀ j, r ≤ j → j < 10 → C2 (b + j) = .inr (2, [.int (ki 0), .int (ki 0), .int (ki 0), .int (ki 0), .int (ki 0), .int (ki (-1)), .int (ki 0)])) → W_ (b + 10) A2 (va_up C2 i (.inr (3, fs))) h2 → mm_Ex (mm_Run X (d + 1)) 22 Q (146, [], [(1, .int (nI 10)), (0, .ref o)], h2) (c - n) (k - 7 * n)) →
    mm_Ex (mm_Run X (d + 1)) 22 Q (121, [], [(1, .int (nI r)), (0, .ref o)], h) c k
  | 0, r, hr, A, C, h, c, k, hc, hk, hW, ho, ha, hC, g => by
    have e : r = 10 := by omega
    subst e
    refine go_adv hX c_22 2 (F2 := (124, [.int (kb 10), .int (nI 10)], [(1, .int (nI 10)), (0, .ref o)], h)) rfl ?_
    refine go_ct hX 146 c_22 rfl rfl (show kb 10 ≤ nI 10 by decide) ?_
    exact g A C h (fun _ _ => rfl) (fun _ _ _ => rfl) hC (fun j h1 h2 => by omega) hW
  | n + 1, r, hr, A, C, h, c, k, hc, hk, hW, ho, ha, hC, g => by
    have e10 : kb 10 = nI 10 := by decide
    refine go_adv hX c_22 2 (F2 := (124, [.int (kb 10), .int (nI r)], [(1, .int (nI r)), (0, .ref o)], h)) rfl ?_
    refine go_cf hX c_22 rfl (by decide) (k_ge e10 (by omega) (by decide)) ?_
    refine go_adv hX c_22 1 (F2 := (128, [.ref o], [(1, .int (nI r)), (0, .ref o)], h)) rfl ?_
    refine ct_gR hX c_22 rfl hW (by omega) ho h2 ?_
    refine go_adv hX c_22 1 (F2 := (132, [.int (nI r), .ref qa], [(1, .int (nI r)), (0, .ref o)], h)) rfl ?_
    refine ct_new hX 7 c_22 rfl rfl (by omega) (by omega) hW (by omega) fun A1 g1 E1 W1 => ?_
    refine go_p hX c_22 rfl rfl rfl ?_
    refine ct_call (N := b + r) (As := []) (rest := [.ref (A1 (b + r)), .int (nI r), .ref qa]) (mc := 0) (ms := 0) (n := 0) hX (k_St hX) c_22 rfl (by decide) (Nat.le_of_ble_eq_true rfl) rfl rfl (Nat.le_of_ble_eq_true rfl) (Nat.zero_le _) (Nat.zero_le _) W1 (by omega) fun A2 C2 g2 E2 D2 V2 W2 => ?_
    rw [show A1 (b + r) = A2 (b + r) from (E2 _ (by omega)).symm]
    have hA : ∀ j, j < b + r → A2 j = A j := fun j hj => by rw [E2 j (by omega), E1 j hj]
    have V : C2 (b + r) = .inr (2, [.int (ki 0), .int (ki 0), .int (ki 0), .int (ki 0), .int (ki 0), .int (ki (-1)), .int (ki 0)]) := V2 0 (by omega)
    refine ct_sR (pv := b + r) (cv := 2) hX r c_22 rfl W2 (show pa < b + r + (0 + 1) by omega) hpai ((hA pa (by omega)).trans ha) ((D2 pa (by omega)).trans hC) rfl (by omega) (by decide) (show b + r < b + r + (0 + 1) by omega) (by omega) rfl V (by decide) ⟨rfl, by decide⟩ fun g3 W3 => ?_
    refine go_adv hX c_22 1 (F2 := (143, [], [(1, .int (nI r + ki 1)), (0, .ref o)], g3)) rfl ?_
    refine go_to hX 121 c_22 rfl rfl ?_
    rw [nI_s]
    have eR : va_up (aR_ r (fun j => A (b + j))) r (some (A2 (b + r))) = aR_ (r + 1) (fun j => A2 (b + j)) := by
      rw [show aR_ r (fun j => A (b + j)) = aR_ r (fun j => A2 (b + j)) from aR_c (fun j hj => (hA _ (by omega)).symm)]
      exact aR_up (n := 0) rfl
    rw [eR] at W3
    refine k_T3 hX hpab hpai hi h2 n (r + 1) (by omega) A2 _ g3 _ _ (by omega) (by omega) W3 ((hA i (by omega)).trans ho) ((hA pa (by omega)).trans ha) (va_up_self _ _ _) fun A3 C3 h3 k1 k2 k3 k4 W4 => ?_
    have g9 := g A3 C3 h3 (fun j hj => by rw [k1 j (by omega), hA j hj]) (fun j hj hj2 => by rw [k2 j (by omega) hj2, va_up_ne _ _ hj2, D2 j hj]) k3 (fun j h1 h9 => ?_) W4
    · rw [show c - 1 - 0 - n = c - (n + 1) by omega, show k - 7 - 0 - 7 * n = k - 7 * (n + 1) by omega]
      exact g9
    · by_cases e : j = r
      · subst e
        rw [k2 _ (by omega) (by omega), va_up_ne _ _ (by omega), V]
      · exact k4 j (by omega) h9
end KT

section KV
variable {X : mm_Cl} {S : Nat → Nat} {d : Nat} {Q : mm_Re → Prop} {h : mm_S} {o i p r : Nat} {A : Nat → Nat} {C : Nat → mm_Ce} {fs : List Value}
theorem yc_l {l l' : Nat → Nat} {w : Nat → Nat → Int32} {j : Nat} (e : ∀ j, j < 13 → l' j = l j) : yc_ l' w j = yc_ l w j := by
  unfold yc_
  split
  · rw [e 1 (by decide), e 2 (by decide), e 3 (by decide), e 4 (by decide)]
  · rfl
  · rfl
  · rfl
  · rw [show aR_ 8 (fun k => l' (k + 5)) = aR_ 8 (fun k => l (k + 5)) from aR_c (fun k hk => e _ (by omega))]
  · rfl
theorem zZ_l {l l' : Nat → Nat} {j : Nat} (e : ∀ j, j < 20 → l' j = l j) : zZ_ l' j = zZ_ l j := by
  unfold zZ_
  split
  · rw [e 1 (by decide), e 3 (by decide), e 4 (by decide)]
  · rw [e 2 (by decide)]
  · rfl
  · rfl
  · rw [show aR_ 15 (fun k => l' (k + 5)) = aR_ 15 (fun k => l (k + 5)) from aR_c (fun k hk => e _ (by omega))]
  · rfl
theorem zS_l {l l' : Nat → Nat} {j : Nat} (e : l' 1 = l 1) : zS_ l' j = zS_ l j := by
  unfold zS_
  split
  · rw [e]
  · rfl
/-- a treaty newly made lies at b -/
def PT_ (A : Nat → Nat) (C : Nat → mm_Ce) (b : Nat) : Prop := ∀ j, j < 16 → C (b + j) = tc_ (fun t => A (b + t)) gN_ wT_ j
theorem PT_c {A A2 : Nat → Nat} {C C2 : Nat → mm_Ce} {b : Nat} (h : PT_ A C b) (hA : ∀ j, j < 16 → A2 (b + j) = A (b + j)) (hC : ∀ j, j < 16 → C2 (b + j) = C (b + j)) : PT_ A2 C2 b := fun j hj => by
  rw [hC j hj, h j hj]
  exact (tc_l (fun t ht => hA t ht) (fun t ht => by show t + 6 < 16; omega)).symm
theorem k_X2 {b pa qa : Nat} (hX : mm_mono X) (hpab : pa < b) (hpai : pa ≠ i) (hi : i < b) (h2 : fs[4]? = some (.ref qa)) : ∀ (n r : Nat), r + n = 8 → ∀ (A : Nat → Nat) (C : Nat → mm_Ce) (h : mm_S) (c k : Nat), 16 * n ≤ c → 110 * n ≤ k → W_ (b + 16 * r) A (va_up C i (.inr (5, fs))) h → A i = o → A pa = qa → C pa = .inl (7, 8, .inr (.inr (.inr (.inr (aR_ r (fun j => A (b + 16 * j))))))) →
    (∀ A2 C2 h2, (∀ j, j < b + 16 * r → A2 j = A j) → (∀ j, j < b + 16 * r → j ≠ pa → C2 j = C j) → C2 pa = .inl (7, 8, .inr (.inr (.inr (.inr (aR_ 8 (fun j => A2 (b + 16 * j))))))) → (∀ j, r ≤ j → j < 8 → PT_ A2 C2 (b + 16 * j)) → W_ (b + 128) A2 (va_up C2 i (.inr (5, fs))) h2 → mm_Ex (mm_Run X (d + 3)) 67 Q (136, [], [(1, .int (nI 8)), (0, .ref o)], h2) (c - 16 * n) (k - 110 * n)) →
    mm_Ex (mm_Run X (d + 3)) 67 Q (111, [], [(1, .int (nI r)), (0, .ref o)], h) c k
  | 0, r, hr, A, C, h, c, k, hc, hk, hW, ho, ha, hC, g => by
    have e : r = 8 := by omega
    subst e
    refine go_adv hX c_67 2 (F2 := (114, [.int (kb 8), .int (nI 8)], [(1, .int (nI 8)), (0, .ref o)], h)) rfl ?_
    refine go_ct hX 136 c_67 rfl rfl (show kb 8 ≤ nI 8 by decide) ?_
    exact g A C h (fun _ _ => rfl) (fun _ _ _ => rfl) hC (fun j h1 h2 => by omega) hW
  | n + 1, r, hr, A, C, h, c, k, hc, hk, hW, ho, ha, hC, g => by
    have e8 : kb 8 = nI 8 := by decide
    refine go_adv hX c_67 2 (F2 := (114, [.int (kb 8), .int (nI r)], [(1, .int (nI r)), (0, .ref o)], h)) rfl ?_
    refine go_cf hX c_67 rfl (by decide) (k_ge e8 (by omega) (by decide)) ?_
    refine go_adv hX c_67 1 (F2 := (118, [.ref o], [(1, .int (nI r)), (0, .ref o)], h)) rfl ?_
    refine ct_gR hX c_67 rfl hW (by omega) ho h2 ?_
    refine go_adv hX c_67 1 (F2 := (122, [.int (nI r), .ref qa], [(1, .int (nI r)), (0, .ref o)], h)) rfl ?_
    refine ct_new hX 10 c_67 rfl rfl (by omega) (by omega) hW (by omega) fun A1 g1 E1 W1 => ?_
    refine go_p hX c_67 rfl rfl rfl ?_
    refine ct_call (N := b + 16 * r) (As := []) (rest := [.ref (A1 (b + 16 * r)), .int (nI r), .ref qa]) (mc := 15) (ms := 100) (n := 15) hX (k_T hX (d := d + 1)) c_67 rfl (by decide) (Nat.le_of_ble_eq_true rfl) rfl rfl (Nat.le_of_ble_eq_true rfl) (by omega) (by omega) W1 (by omega) fun A2 C2 g2 E2 D2 V2 W2 => ?_
    rw [show A1 (b + 16 * r) = A2 (b + 16 * r) from (E2 _ (by omega)).symm]
    have hA : ∀ j, j < b + 16 * r → A2 j = A j := fun j hj => by rw [E2 j (by omega), E1 j hj]
    have V : C2 (b + 16 * r) = .inr (3, fT_ (fun t => A2 (b + 16 * r + t)) (wT_ 0)) := V2 0 (by omega)
    have eM : b + 16 * r + (15 + 1) = b + 16 * (r + 1) := by omega
    rw [eM] at W2
    refine ct_sR (pv := b + 16 * r) (cv := 3) hX r c_67 rfl W2 (show pa < b + 16 * (r + 1) by omega) hpai ((hA pa (by omega)).trans ha) ((D2 pa (by omega)).trans hC) rfl (by omega) (by decide) (show b + 16 * r < b + 16 * (r + 1) by omega) (by omega) rfl V (by decide) ⟨rfl, by decide⟩ fun g3 W3 => ?_
    refine go_adv hX c_67 1 (F2 := (133, [], [(1, .int (nI r + ki 1)), (0, .ref o)], g3)) rfl ?_
    refine go_to hX 111 c_67 rfl rfl ?_
    rw [nI_s]
    have eR : va_up (aR_ r (fun j => A (b + 16 * j))) r (some (A2 (b + 16 * r))) = aR_ (r + 1) (fun j => A2 (b + 16 * j)) := by
      rw [show aR_ r (fun j => A (b + 16 * j)) = aR_ r (fun j => A2 (b + 16 * j)) from aR_c (fun j hj => (hA _ (by omega)).symm)]
      exact aR_up (n := 0) rfl
    rw [eR] at W3
    refine k_X2 hX hpab hpai hi h2 n (r + 1) (by omega) A2 _ g3 _ _ (by omega) (by omega) W3 ((hA i (by omega)).trans ho) ((hA pa (by omega)).trans ha) (va_up_self _ _ _) fun A3 C3 h3 k1 k2 k3 k4 W4 => ?_
    have g9 := g A3 C3 h3 (fun j hj => by rw [k1 j (by omega), hA j hj]) (fun j hj hj2 => by rw [k2 j (by omega) hj2, va_up_ne _ _ hj2, D2 j hj]) k3 (fun j h1 h9 => ?_) W4
    · rw [show c - 1 - 15 - 16 * n = c - 16 * (n + 1) by omega, show k - 10 - 100 - 110 * n = k - 110 * (n + 1) by omega]
      exact g9
    · by_cases e : j = r
      · subst e
        exact PT_c (A := A2) (C := C2) (fun t ht => V2 t (by omega)) (fun t ht => k1 _ (by omega)) (fun t ht => by rw [k2 _ (by omega) (by omega), va_up_ne _ _ (by omega)])
      · exact k4 j (by omega) h9
end KV

/-! append, where the bytes grow -/
section GA
variable {X : mm_Cl} {S : Nat → Nat} {d c k : Nat} {Q : mm_Re → Prop} {h : mm_S}
theorem gr_obj {q0 q1 cap : Nat} {f2 f3 : Int32} (hq0 : q0 ∈ h.1) (hc0 : h.2 q0 = .inr (7, [.ref q1, .int 0, .int f2, .int f3])) : fx_obj h q0 7 = some [.ref q1, .int 0, .int f2, .int f3] := by
  unfold fx_obj
  rw [if_pos hq0, hc0]
  rfl
theorem gr_app5 (hX : mm_mono X) (hS : mm_XS S X) {q0 q1 cap : Nat} {g : Nat → Int32} {f2 : Int32} (hq0 : q0 ∈ h.1) (hc0 : h.2 q0 = .inr (7, [.ref q1, .int 0, .int f2, .int (nI cap)])) (hq1 : q1 ∈ h.1) (hc1 : h.2 q1 = .inl (4, cap, .inl g)) (hcap : cap < 61) (hfit : ∀ i, i < cap → fits .byte (.int (g i)) = true) (hc : 1 ≤ c) (hk : 2 * cap + 2 ≤ k) {x1 : Int32} (hF : ∀ q : Nat, q ∉ h.1 → ∃ o, F_J5_append_3fe6f S (gr_h h q0 q cap g f2 (nI cap)) q0 x1 = some o ∧ fx_gI (gr_h h q0 q cap g f2 (nI cap)) q0 7 3 = some (nI cap) ∧ F_J5_ensureCapacityInternal_d00df (gr_h h q0 q cap g f2 (nI cap)) q0 (nI (cap + 1)) = some (gr_h h q0 q cap g f2 (nI cap)) ∧ Q (.inl (some (.ref o.1)), o.2)) : mm_Run X (d + 4) 253 c k [.ref q0, .int x1] h Q := by
  have ho := gr_obj (cap := cap) hq0 hc0
  have eis : fx_is h q0 7 = some () := by unfold fx_is; rw [ho]; rfl
  have en : fx_gI h q0 7 3 = some (nI cap) := by unfold fx_gI; rw [ho]; rfl
  refine mm_Run_in (by decide) (by decide) (Nat.le_of_ble_eq_true rfl) ?_
  show mm_Ex (mm_Run X (d + 3)) 253 Q (0, [], [(0, .ref q0), (1, .int x1)], h) c k
  refine go_adv hX c_253 2 (F2 := (2, [.ref q0, .ref q0], [(0, .ref q0), (1, .int x1)], h)) rfl ?_
  refine go_gI hX c_253 rfl en ?_
  refine go_adv hX c_253 2 (F2 := (7, [.int (nI cap + ki 1), .ref q0], [(0, .ref q0), (1, .int x1)], h)) rfl ?_
  rw [nI_s]
  refine go_cVx hX (As := [.int (nI (cap + 1))]) (rest := []) (ci := 7) 1 (2 * cap + 2) c_253 rfl (Nat.le_of_ble_eq_true rfl) rfl rfl eis (by decide) (Nat.le_of_ble_eq_true rfl) hc hk ?_
  refine gr_ens hX hq0 hc0 hq1 hc1 hcap hfit (Nat.le_refl 1) (Nat.le_refl _) (fun q hqn => ?_)
  obtain ⟨o, hF, en2, ee2, hQ⟩ := hF q hqn
  unfold F_J5_append_3fe6f at hF
  rw [en2, Option.bind_some] at hF
  obtain ⟨_, e3, hF⟩ := mm_bind hF
  rw [nI_s, ee2, Option.bind_some] at hF
  generalize hv4 : gr_h h q0 q cap g f2 (nI cap) = v4 at *
  clear hv4
  show mm_Ex (mm_Run X (d + 3)) 253 Q (10, [], [(0, .ref q0), (1, .int x1)], v4) _ _
  refine go_adv hX c_253 1 (F2 := (11, [.ref q0], [(0, .ref q0), (1, .int x1)], v4)) rfl ?_
  obtain ⟨_, e6, hF⟩ := mm_bind hF
  obtain ⟨v7, e8, hF⟩ := mm_bind hF
  refine go_cV hX (As := []) (rv := some (.int v7)) (h2 := v4) (ci := 7) c_253 rfl (Nat.le_of_ble_eq_true rfl) rfl rfl e6 (by decide) (Nat.le_of_ble_eq_true rfl) (fun Q2 hQ2 => r_J5_isLatin1_aae02 hX hS (d := (d + 2)) e8 hQ2) ?_
  rcases mm_ite hF with ⟨hc9, hF⟩ | ⟨hc9, hF⟩
  · refine go_zt hX 45 c_253 rfl rfl hc9 ?_
    refine go_ls [(0, .ref q0), (1, .int x1)] ⟨rfl, ⟨rfl, trivial⟩⟩ ?_
    exact r_J5_append_3fe6f_B45 hX hS hF hQ
  · refine go_zf hX c_253 rfl (by decide) hc9 ?_
    refine go_adv hX c_253 1 (F2 := (18, [.int x1], [(0, .ref q0), (1, .int x1)], v4)) rfl ?_
    obtain ⟨v20, e21, hF⟩ := mm_bind hF
    refine go_cS hX (As := [.int x1]) (rv := some (.int v20)) (h2 := v4) c_253 rfl (by decide) (Nat.le_of_ble_eq_true rfl) rfl rfl (Nat.le_of_ble_eq_true rfl) (fun Q2 hQ2 => r_J1_canEncode_fc78d hX (d := (d + 2)) e21 hQ2) ?_
    rcases mm_ite hF with ⟨hc22, hF⟩ | ⟨hc22, hF⟩
    · refine go_zt hX 45 c_253 rfl rfl hc22 ?_
      refine go_ls [(0, .ref q0), (1, .int x1)] ⟨rfl, ⟨rfl, trivial⟩⟩ ?_
      exact r_J5_append_3fe6f_B45 hX hS hF hQ
    · refine go_zf hX c_253 rfl (by decide) hc22 ?_
      refine go_adv hX c_253 1 (F2 := (25, [.ref q0], [(0, .ref q0), (1, .int x1)], v4)) rfl ?_
      obtain ⟨v23, e24, hF⟩ := mm_bind hF
      refine go_gR hX c_253 rfl e24 ?_
      refine go_adv hX c_253 1 (F2 := (29, [.ref q0, .ref v23], [(0, .ref q0), (1, .int x1)], v4)) rfl ?_
      refine go_p hX c_253 rfl rfl rfl ?_
      obtain ⟨v25, e26, hF⟩ := mm_bind hF
      refine go_gI hX c_253 rfl e26 ?_
      refine go_p hX c_253 rfl rfl ⟨rfl, rfl⟩ ?_
      refine go_adv hX c_253 2 (F2 := (36, [.int (v25 + (ki 1)), .ref q0, .int v25, .ref v23], [(0, .ref q0), (1, .int x1)], v4)) rfl ?_
      obtain ⟨h27, e28, hF⟩ := mm_bind hF
      refine go_pV hX c_253 rfl e28 ?_
      refine go_adv hX c_253 2 (F2 := (41, [.int x1.toInt8.toInt32, .int v25, .ref v23], [(0, .ref q0), (1, .int x1)], h27)) rfl ?_
      obtain ⟨h29, e30, hF⟩ := mm_bind hF
      refine go_sB hX c_253 rfl e30 ?_
      refine go_to hX 75 c_253 rfl rfl ?_
      refine go_adv hX c_253 1 (F2 := (76, [.ref q0], [(0, .ref q0), (1, .int x1)], h29)) rfl ?_
      cases hF
      exact go_aret hX c_253 rfl rfl (by first | exact Or.inl ⟨_, rfl⟩ | exact Or.inr ⟨_, rfl⟩) hQ
theorem gr_app4 (hX : mm_mono X) (hS : mm_XS S X) {q0 q1 cap : Nat} {g : Nat → Int32} {f2 : Int32} (hq0 : q0 ∈ h.1) (hc0 : h.2 q0 = .inr (7, [.ref q1, .int 0, .int f2, .int (nI cap)])) (hq1 : q1 ∈ h.1) (hc1 : h.2 q1 = .inl (4, cap, .inl g)) (hcap : cap < 61) (hfit : ∀ i, i < cap → fits .byte (.int (g i)) = true) (hc : 1 ≤ c) (hk : 2 * cap + 2 ≤ k) {x1 : Int32} (hF : ∀ q : Nat, q ∉ h.1 → ∃ o, F_J5_append_3fe6f S (gr_h h q0 q cap g f2 (nI cap)) q0 x1 = some o ∧ fx_gI (gr_h h q0 q cap g f2 (nI cap)) q0 7 3 = some (nI cap) ∧ F_J5_ensureCapacityInternal_d00df (gr_h h q0 q cap g f2 (nI cap)) q0 (nI (cap + 1)) = some (gr_h h q0 q cap g f2 (nI cap)) ∧ Q (.inl (some (.ref q0)), o.2)) : mm_Run X (d + 5) 242 c k [.ref q0, .int x1] h Q := by
  have ho := gr_obj (cap := cap) hq0 hc0
  have eis : fx_is h q0 7 = some () := by unfold fx_is; rw [ho]; rfl
  refine mm_Run_in (by decide) (by decide) (Nat.le_of_ble_eq_true rfl) ?_
  show mm_Ex (mm_Run X (d + 4)) 242 Q (0, [], [(0, .ref q0), (1, .int x1)], h) c k
  refine go_adv hX c_242 2 (F2 := (2, [.int x1, .ref q0], [(0, .ref q0), (1, .int x1)], h)) rfl ?_
  refine go_cSUx hX (As := [.int x1]) (rest := []) (ci := 7) 1 (2 * cap + 2) c_242 rfl (by decide) (Nat.le_of_ble_eq_true rfl) rfl rfl eis (by decide) (Nat.le_of_ble_eq_true rfl) hc hk ?_
  refine gr_app5 hX hS hq0 hc0 hq1 hc1 hcap hfit (Nat.le_refl 1) (Nat.le_refl _) (fun q hqn => ?_)
  obtain ⟨v2, hF, en2, ee2, hQ⟩ := hF q hqn
  refine ⟨v2, hF, en2, ee2, ?_⟩
  show mm_Ex (mm_Run X (d + 4)) 242 Q (5, [.ref v2.1], [(0, .ref q0), (1, .int x1)], v2.2) _ _
  refine go_p hX c_242 rfl rfl rfl ?_
  refine go_adv hX c_242 1 (F2 := (7, [.ref q0], [(0, .ref q0), (1, .int x1)], v2.2)) rfl ?_
  exact go_aret hX c_242 rfl rfl (by first | exact Or.inl ⟨_, rfl⟩ | exact Or.inr ⟨_, rfl⟩) hQ
theorem gr_append (hX : mm_mono X) (hS : mm_XS S X) {x0 z0 : Nat} {x1 : Int32} {q0 q1 cap : Nat} {g : Nat → Int32} {f2 : Int32} (hin : F_X5_isInRange h x1 (kb 32) (kb 126) = some (nI 1)) (r1 : fx_gR h x0 5 8 = some z0) (r2 : fx_gR h z0 1 0 = some q0) (hlt : nI cap < kb 60) (hq0 : q0 ∈ h.1) (hc0 : h.2 q0 = .inr (7, [.ref q1, .int 0, .int f2, .int (nI cap)])) (hq1 : q1 ∈ h.1) (hc1 : h.2 q1 = .inl (4, cap, .inl g)) (hcap : cap < 61) (hfit : ∀ i, i < cap → fits .byte (.int (g i)) = true) (hc : 1 ≤ c) (hk : 2 * cap + 2 ≤ k) (hF : ∀ q : Nat, q ∉ h.1 → ∃ v17 v24, F_J5_append_3fe6f S (gr_h h q0 q cap g f2 (nI cap)) q0 x1 = some v17 ∧ fx_gI (gr_h h q0 q cap g f2 (nI cap)) q0 7 3 = some (nI cap) ∧ F_J5_ensureCapacityInternal_d00df (gr_h h q0 q cap g f2 (nI cap)) q0 (nI (cap + 1)) = some (gr_h h q0 q cap g f2 (nI cap)) ∧ fx_gR v17.2 x0 5 8 = some z0 ∧ fx_gR v17.2 z0 1 0 = some q0 ∧ fx_is v17.2 q0 7 = some () ∧ F_J4_length_8abf5 v17.2 q0 = some v24 ∧ Q (.inl (some (.int v24)), v17.2)) : mm_Run X (d + 6) 98 c k [.ref x0, .int x1] h Q := by
  have ho := gr_obj (cap := cap) hq0 hc0
  have eis : fx_is h q0 7 = some () := by unfold fx_is; rw [ho]; rfl
  have eln : F_J4_length_8abf5 h q0 = some (nI cap) := by
    unfold F_J4_length_8abf5 F_J5_length_8abf5 fx_is fx_gI
    rw [ho]
    rfl
  refine mm_Run_in (by decide) (by decide) (Nat.le_of_ble_eq_true rfl) ?_
  show mm_Ex (mm_Run X (d + 5)) 98 Q (0, [], [(0, .ref x0), (1, .int x1)], h) c k
  refine go_adv hX c_98 3 (F2 := (5, [.int (kb 126), .int (kb 32), .int x1], [(0, .ref x0), (1, .int x1)], h)) rfl ?_
  refine go_cS hX (As := [.int x1, .int (kb 32), .int (kb 126)]) (rv := some (.int (nI 1))) (h2 := h) c_98 rfl (by decide) (Nat.le_of_ble_eq_true rfl) rfl rfl (Nat.le_of_ble_eq_true rfl) (fun Q2 hQ2 => r_X5_isInRange hX (d := (d + 4)) hin hQ2) ?_
  refine go_zt hX 22 c_98 rfl rfl (show nI 1 ≠ 0 by decide) ?_
  refine go_adv hX c_98 1 (F2 := (23, [.ref x0], [(0, .ref x0), (1, .int x1)], h)) rfl ?_
  refine go_gR hX c_98 rfl r1 ?_
  refine go_gR hX c_98 rfl r2 ?_
  refine go_cV hX (As := []) (rv := some (.int (nI cap))) (h2 := h) (ci := 7) c_98 rfl (Nat.le_of_ble_eq_true rfl) rfl rfl eis (by decide) (Nat.le_of_ble_eq_true rfl) (fun Q2 hQ2 => r_J4_length_8abf5 hX (d := (d + 3)) eln hQ2) ?_
  refine go_adv hX c_98 1 (F2 := (34, [.int (kb 60), .int (nI cap)], [(0, .ref x0), (1, .int x1)], h)) rfl ?_
  refine go_ct hX 48 c_98 rfl rfl hlt ?_
  refine go_adv hX c_98 1 (F2 := (49, [.ref x0], [(0, .ref x0), (1, .int x1)], h)) rfl ?_
  refine go_gR hX c_98 rfl r1 ?_
  refine go_gR hX c_98 rfl r2 ?_
  refine go_adv hX c_98 1 (F2 := (56, [.int x1, .ref q0], [(0, .ref x0), (1, .int x1)], h)) rfl ?_
  refine go_cVx hX (As := [.int x1]) (rest := []) (ci := 7) 1 (2 * cap + 2) c_98 rfl (Nat.le_of_ble_eq_true rfl) rfl rfl eis (by decide) (Nat.le_of_ble_eq_true rfl) hc hk ?_
  refine gr_app4 hX hS hq0 hc0 hq1 hc1 hcap hfit (Nat.le_refl 1) (Nat.le_refl _) (fun q hqn => ?_)
  obtain ⟨v17, v24, hF, en2, ee2, e20, e22, e23, e25, hQ⟩ := hF q hqn
  refine ⟨v17, hF, en2, ee2, ?_⟩
  show mm_Ex (mm_Run X (d + 5)) 98 Q (59, [.ref q0], [(0, .ref x0), (1, .int x1)], v17.2) _ _
  refine go_p hX c_98 rfl rfl rfl ?_
  refine go_adv hX c_98 1 (F2 := (61, [.ref x0], [(0, .ref x0), (1, .int x1)], v17.2)) rfl ?_
  refine go_gR hX c_98 rfl e20 ?_
  refine go_gR hX c_98 rfl e22 ?_
  refine go_cV hX (As := []) (rv := some (.int v24)) (h2 := v17.2) (ci := 7) c_98 rfl (Nat.le_of_ble_eq_true rfl) rfl rfl e23 (by decide) (Nat.le_of_ble_eq_true rfl) (fun Q2 hQ2 => r_J4_length_8abf5 hX (d := (d + 3)) e25 hQ2) ?_
  exact go_iret hX c_98 rfl rfl rfl hQ
end GA

theorem fx_nar_s {ty : FieldType} {x v : Int32} (e : fx_nar ty x = some v) : x = v ∧ narrow ty (.int v) = .int v := by
  unfold fx_nar at e
  rcases mm_ite e with ⟨h, e⟩ | ⟨-, e⟩
  · cases e
    exact ⟨rfl, h⟩
  · cases e
theorem c_1 : mm_cd 1 = k_X0_copyFrom := rfl
def F_X0_copyFrom (h : mm_S) (x0 : Nat) (x1 : Nat) : Option mm_S :=
  (fx_gI h x1 0 0).bind fun v1 =>
  (fx_pV h x0 0 0 (.int v1)).bind fun h3 =>
  (fx_gI h3 x1 0 1).bind fun v5 =>
  (fx_pV h3 x0 0 1 (.int v5)).bind fun h7 =>
  (fx_gI h7 x1 0 2).bind fun v9 =>
  (fx_pV h7 x0 0 2 (.int v9)).bind fun h11 =>
  (fx_gI h11 x1 0 3).bind fun v13 =>
  (fx_pV h11 x0 0 3 (.int v13)).bind fun h15 =>
  (fx_gI h15 x1 0 4).bind fun v17 =>
  (fx_pV h15 x0 0 4 (.int v17)).bind fun h19 =>
  some h19
theorem r_X0_copyFrom {X : mm_Cl} (hX : mm_mono X) {d c k : Nat} {Q : mm_Re → Prop} {h : mm_S} {x0 : Nat} {x1 : Nat} {o : mm_S} (hF : F_X0_copyFrom h x0 x1 = some o) (hQ : Q (.inl none, o)) : mm_Run X (d + 1) 1 c k [.ref x0, .ref x1] h Q := by
  unfold F_X0_copyFrom at hF
  refine mm_Run_in (by decide) (by decide) (Nat.le_of_ble_eq_true rfl) ?_
  show mm_Ex (mm_Run X d) 1 Q (0, [], [(0, .ref x0), (1, .ref x1)], h) c k
  refine go_adv hX c_1 2 (F2 := (2, [.ref x1, .ref x0], [(0, .ref x0), (1, .ref x1)], h)) rfl ?_
  obtain ⟨v1, e2, hF⟩ := mm_bind hF
  refine go_gI hX c_1 rfl e2 ?_
  obtain ⟨h3, e4, hF⟩ := mm_bind hF
  refine go_pV hX c_1 rfl e4 ?_
  refine go_adv hX c_1 2 (F2 := (10, [.ref x1, .ref x0], [(0, .ref x0), (1, .ref x1)], h3)) rfl ?_
  obtain ⟨v5, e6, hF⟩ := mm_bind hF
  refine go_gI hX c_1 rfl e6 ?_
  obtain ⟨h7, e8, hF⟩ := mm_bind hF
  refine go_pV hX c_1 rfl e8 ?_
  refine go_adv hX c_1 2 (F2 := (18, [.ref x1, .ref x0], [(0, .ref x0), (1, .ref x1)], h7)) rfl ?_
  obtain ⟨v9, e10, hF⟩ := mm_bind hF
  refine go_gI hX c_1 rfl e10 ?_
  obtain ⟨h11, e12, hF⟩ := mm_bind hF
  refine go_pV hX c_1 rfl e12 ?_
  refine go_adv hX c_1 2 (F2 := (26, [.ref x1, .ref x0], [(0, .ref x0), (1, .ref x1)], h11)) rfl ?_
  obtain ⟨v13, e14, hF⟩ := mm_bind hF
  refine go_gI hX c_1 rfl e14 ?_
  obtain ⟨h15, e16, hF⟩ := mm_bind hF
  refine go_pV hX c_1 rfl e16 ?_
  refine go_adv hX c_1 2 (F2 := (34, [.ref x1, .ref x0], [(0, .ref x0), (1, .ref x1)], h15)) rfl ?_
  obtain ⟨v17, e18, hF⟩ := mm_bind hF
  refine go_gI hX c_1 rfl e18 ?_
  obtain ⟨h19, e20, hF⟩ := mm_bind hF
  refine go_pV hX c_1 rfl e20 ?_
  cases hF
  exact go_ret hX c_1 rfl rfl hQ
theorem c_117 : mm_cd 117 = k_X5_isInRange := rfl
def F_X5_isInRange (h : mm_S) (x0 : Int32) (x1 : Int32) (x2 : Int32) : Option Int32 :=
  if x0 < x1 then
    some (ki 0)
  else
    if x2 < x0 then
      some (ki 0)
    else
      some (ki 1)
theorem r_X5_isInRange {X : mm_Cl} (hX : mm_mono X) {d c k : Nat} {Q : mm_Re → Prop} {h : mm_S} {x0 : Int32} {x1 : Int32} {x2 : Int32} {o : Int32} (hF : F_X5_isInRange h x0 x1 x2 = some o) (hQ : Q (.inl (some (.int o)), h)) : mm_Run X (d + 1) 117 c k [.int x0, .int x1, .int x2] h Q := by
  unfold F_X5_isInRange at hF
  refine mm_Run_in (by decide) (by decide) (Nat.le_of_ble_eq_true rfl) ?_
  show mm_Ex (mm_Run X d) 117 Q (0, [], [(0, .int x0), (1, .int x1), (2, .int x2)], h) c k
  refine go_adv hX c_117 2 (F2 := (2, [.int x1, .int x0], [(0, .int x0), (1, .int x1), (2, .int x2)], h)) rfl ?_
  rcases mm_ite hF with ⟨hc1, hF⟩ | ⟨hc1, hF⟩
  · refine go_ct hX 14 c_117 rfl rfl hc1 ?_
    refine go_adv hX c_117 1 (F2 := (15, [.int (ki 0)], [(0, .int x0), (1, .int x1), (2, .int x2)], h)) rfl ?_
    cases hF
    exact go_iret hX c_117 rfl rfl (by decide) hQ
  · refine go_cf hX c_117 rfl (by decide) hc1 ?_
    refine go_adv hX c_117 2 (F2 := (7, [.int x2, .int x0], [(0, .int x0), (1, .int x1), (2, .int x2)], h)) rfl ?_
    rcases mm_ite hF with ⟨hc2, hF⟩ | ⟨hc2, hF⟩
    · refine go_ct hX 14 c_117 rfl rfl hc2 ?_
      refine go_adv hX c_117 1 (F2 := (15, [.int (ki 0)], [(0, .int x0), (1, .int x1), (2, .int x2)], h)) rfl ?_
      cases hF
      exact go_iret hX c_117 rfl rfl (by decide) hQ
    · refine go_cf hX c_117 rfl (by decide) hc2 ?_
      refine go_adv hX c_117 1 (F2 := (11, [.int (ki 1)], [(0, .int x0), (1, .int x1), (2, .int x2)], h)) rfl ?_
      refine go_to hX 15 c_117 rfl rfl ?_
      cases hF
      exact go_iret hX c_117 rfl rfl (by decide) hQ
theorem c_4 : mm_cd 4 = k_X1_isDigit := rfl
def F_X1_isDigit (h : mm_S) (x0 : Int32) : Option Int32 :=
  (F_X5_isInRange h x0 (kb 48) (kb 57)).bind fun v1 =>
  (fx_nar .boolean v1).bind fun v3 =>
  some v3
theorem r_X1_isDigit {X : mm_Cl} (hX : mm_mono X) {d c k : Nat} {Q : mm_Re → Prop} {h : mm_S} {x0 : Int32} {o : Int32} (hF : F_X1_isDigit h x0 = some o) (hQ : Q (.inl (some (.int o)), h)) : mm_Run X (d + 2) 4 c k [.int x0] h Q := by
  unfold F_X1_isDigit at hF
  refine mm_Run_in (by decide) (by decide) (Nat.le_of_ble_eq_true rfl) ?_
  show mm_Ex (mm_Run X (d + 1)) 4 Q (0, [], [(0, .int x0)], h) c k
  refine go_adv hX c_4 3 (F2 := (5, [.int (kb 57), .int (kb 48), .int x0], [(0, .int x0)], h)) rfl ?_
  obtain ⟨v1, e2, hF⟩ := mm_bind hF
  refine go_cS hX (As := [.int x0, .int (kb 48), .int (kb 57)]) (rv := some (.int v1)) (h2 := h) c_4 rfl (by decide) (Nat.le_of_ble_eq_true rfl) rfl rfl (Nat.le_of_ble_eq_true rfl) (fun Q2 hQ2 => r_X5_isInRange hX (d := d) e2 hQ2) ?_
  obtain ⟨v3, e4, hF⟩ := mm_bind hF
  obtain ⟨rfl, e4n⟩ := fx_nar_s e4
  cases hF
  exact go_iret hX c_4 rfl rfl e4n hQ
theorem c_248 : mm_cd 248 = k_J5_length_8abf5 := rfl
def F_J5_length_8abf5 (h : mm_S) (x0 : Nat) : Option Int32 :=
  (fx_gI h x0 7 3).bind fun v1 =>
  some v1
theorem r_J5_length_8abf5 {X : mm_Cl} (hX : mm_mono X) {d c k : Nat} {Q : mm_Re → Prop} {h : mm_S} {x0 : Nat} {o : Int32} (hF : F_J5_length_8abf5 h x0 = some o) (hQ : Q (.inl (some (.int o)), h)) : mm_Run X (d + 1) 248 c k [.ref x0] h Q := by
  unfold F_J5_length_8abf5 at hF
  refine mm_Run_in (by decide) (by decide) (Nat.le_of_ble_eq_true rfl) ?_
  show mm_Ex (mm_Run X d) 248 Q (0, [], [(0, .ref x0)], h) c k
  refine go_adv hX c_248 1 (F2 := (1, [.ref x0], [(0, .ref x0)], h)) rfl ?_
  obtain ⟨v1, e2, hF⟩ := mm_bind hF
  refine go_gI hX c_248 rfl e2 ?_
  cases hF
  exact go_iret hX c_248 rfl rfl rfl hQ
theorem c_246 : mm_cd 246 = k_J4_length_8abf5 := rfl
def F_J4_length_8abf5 (h : mm_S) (x0 : Nat) : Option Int32 :=
  (fx_is h x0 7).bind fun _ =>
  (F_J5_length_8abf5 h x0).bind fun v2 =>
  some v2
theorem r_J4_length_8abf5 {X : mm_Cl} (hX : mm_mono X) {d c k : Nat} {Q : mm_Re → Prop} {h : mm_S} {x0 : Nat} {o : Int32} (hF : F_J4_length_8abf5 h x0 = some o) (hQ : Q (.inl (some (.int o)), h)) : mm_Run X (d + 2) 246 c k [.ref x0] h Q := by
  unfold F_J4_length_8abf5 at hF
  refine mm_Run_in (by decide) (by decide) (Nat.le_of_ble_eq_true rfl) ?_
  show mm_Ex (mm_Run X (d + 1)) 246 Q (0, [], [(0, .ref x0)], h) c k
  refine go_adv hX c_246 1 (F2 := (1, [.ref x0], [(0, .ref x0)], h)) rfl ?_
  obtain ⟨_, e1, hF⟩ := mm_bind hF
  obtain ⟨v2, e3, hF⟩ := mm_bind hF
  refine go_cSU hX (As := []) (rv := some (.int v2)) (h2 := h) (ci := 7) c_246 rfl (by decide) (Nat.le_of_ble_eq_true rfl) rfl rfl e1 (by decide) (Nat.le_of_ble_eq_true rfl) (fun Q2 hQ2 => r_J5_length_8abf5 hX (d := d) e3 hQ2) ?_
  cases hF
  exact go_iret hX c_246 rfl rfl rfl hQ
theorem c_252 : mm_cd 252 = k_J5_charAt_5068e := rfl
def F_J5_charAt_5068e (S : Nat → Nat) (h : mm_S) (x0 : Nat) (x1 : Int32) : Option Int32 :=
  (fx_gI h x0 7 1).bind fun v1 =>
  (fx_gR h x0 7 0).bind fun v3 =>
  (fx_gI h x0 7 3).bind fun v5 =>
  (fx_len h v3).bind fun v7 =>
  (F_J0_checkIndex_df160 S h x1 (if (v7 >>> (v1 &&& 31)) < v5 then (v7 >>> (v1 &&& 31)) else v5)).bind fun v9 =>
  if v1 ≠ 0 then
    none
  else
    (fx_aB h v3 x1).bind fun v12 =>
    (fx_nar .char (((v12 &&& (ks 255)).toUInt32 % 65536).toInt32)).bind fun v14 =>
    some v14
theorem r_J5_charAt_5068e {X : mm_Cl} (hX : mm_mono X) {S : Nat → Nat} (hS : mm_XS S X) {d c k : Nat} {Q : mm_Re → Prop} {h : mm_S} {x0 : Nat} {x1 : Int32} {o : Int32} (hF : F_J5_charAt_5068e S h x0 x1 = some o) (hQ : Q (.inl (some (.int o)), h)) : mm_Run X (d + 2) 252 c k [.ref x0, .int x1] h Q := by
  unfold F_J5_charAt_5068e at hF
  refine mm_Run_in (by decide) (by decide) (Nat.le_of_ble_eq_true rfl) ?_
  show mm_Ex (mm_Run X (d + 1)) 252 Q (0, [], [(0, .ref x0), (1, .int x1)], h) c k
  refine go_adv hX c_252 1 (F2 := (1, [.ref x0], [(0, .ref x0), (1, .int x1)], h)) rfl ?_
  obtain ⟨v1, e2, hF⟩ := mm_bind hF
  refine go_gI hX c_252 rfl e2 ?_
  refine go_adv hX c_252 2 (F2 := (6, [.ref x0], [(2, .int v1), (0, .ref x0), (1, .int x1)], h)) rfl ?_
  obtain ⟨v3, e4, hF⟩ := mm_bind hF
  refine go_gR hX c_252 rfl e4 ?_
  refine go_adv hX c_252 2 (F2 := (11, [.ref x0], [(3, .ref v3), (2, .int v1), (0, .ref x0), (1, .int x1)], h)) rfl ?_
  obtain ⟨v5, e6, hF⟩ := mm_bind hF
  refine go_gI hX c_252 rfl e6 ?_
  refine go_adv hX c_252 1 (F2 := (15, [.ref v3, .int v5], [(3, .ref v3), (2, .int v1), (0, .ref x0), (1, .int x1)], h)) rfl ?_
  obtain ⟨v7, e8, hF⟩ := mm_bind hF
  refine go_len hX c_252 rfl e8 ?_
  refine go_adv hX c_252 2 (F2 := (18, [.int (v7 >>> (v1 &&& 31)), .int v5], [(3, .ref v3), (2, .int v1), (0, .ref x0), (1, .int x1)], h)) rfl ?_
  refine go_min hX c_252 rfl (Nat.le_of_ble_eq_true rfl) ?_
  refine go_adv hX c_252 3 (F2 := (26, [.int (if (v7 >>> (v1 &&& 31)) < v5 then (v7 >>> (v1 &&& 31)) else v5), .int x1], [(4, .int (if (v7 >>> (v1 &&& 31)) < v5 then (v7 >>> (v1 &&& 31)) else v5)), (3, .ref v3), (2, .int v1), (0, .ref x0), (1, .int x1)], h)) rfl ?_
  obtain ⟨v9, e10, hF⟩ := mm_bind hF
  refine go_cS hX (As := [.int x1, .int (if (v7 >>> (v1 &&& 31)) < v5 then (v7 >>> (v1 &&& 31)) else v5)]) (rv := none) (h2 := h) c_252 rfl (by decide) (Nat.le_of_ble_eq_true rfl) rfl rfl (Nat.le_of_ble_eq_true rfl) (fun Q2 hQ2 => r_J0_checkIndex_df160 hX hS (d := d) e10 hQ2) ?_
  refine go_adv hX c_252 1 (F2 := (30, [.int v1], [(4, .int (if (v7 >>> (v1 &&& 31)) < v5 then (v7 >>> (v1 &&& 31)) else v5)), (3, .ref v3), (2, .int v1), (0, .ref x0), (1, .int x1)], h)) rfl ?_
  rcases mm_ite hF with ⟨hc11, hF⟩ | ⟨hc11, hF⟩
  · refine go_zt hX 42 c_252 rfl rfl hc11 ?_
    refine go_adv hX c_252 2 (F2 := (44, [.int x1, .ref v3], [(4, .int (if (v7 >>> (v1 &&& 31)) < v5 then (v7 >>> (v1 &&& 31)) else v5)), (3, .ref v3), (2, .int v1), (0, .ref x0), (1, .int x1)], h)) rfl ?_
    cases hF
  · refine go_zf hX c_252 rfl (by decide) hc11 ?_
    refine go_adv hX c_252 2 (F2 := (35, [.int x1, .ref v3], [(4, .int (if (v7 >>> (v1 &&& 31)) < v5 then (v7 >>> (v1 &&& 31)) else v5)), (3, .ref v3), (2, .int v1), (0, .ref x0), (1, .int x1)], h)) rfl ?_
    obtain ⟨v12, e13, hF⟩ := mm_bind hF
    refine go_aB hX c_252 rfl e13 ?_
    refine go_adv hX c_252 3 (F2 := (41, [.int (((v12 &&& (ks 255)).toUInt32 % 65536).toInt32)], [(4, .int (if (v7 >>> (v1 &&& 31)) < v5 then (v7 >>> (v1 &&& 31)) else v5)), (3, .ref v3), (2, .int v1), (0, .ref x0), (1, .int x1)], h)) rfl ?_
    obtain ⟨v14, e15, hF⟩ := mm_bind hF
    obtain ⟨rfl, e15n⟩ := fx_nar_s e15
    cases hF
    exact go_iret hX c_252 rfl rfl e15n hQ
theorem c_244 : mm_cd 244 = k_J4_charAt_5068e := rfl
def F_J4_charAt_5068e (S : Nat → Nat) (h : mm_S) (x0 : Nat) (x1 : Int32) : Option Int32 :=
  (fx_is h x0 7).bind fun _ =>
  (F_J5_charAt_5068e S h x0 x1).bind fun v2 =>
  (fx_nar .char v2).bind fun v4 =>
  some v4
theorem r_J4_charAt_5068e {X : mm_Cl} (hX : mm_mono X) {S : Nat → Nat} (hS : mm_XS S X) {d c k : Nat} {Q : mm_Re → Prop} {h : mm_S} {x0 : Nat} {x1 : Int32} {o : Int32} (hF : F_J4_charAt_5068e S h x0 x1 = some o) (hQ : Q (.inl (some (.int o)), h)) : mm_Run X (d + 3) 244 c k [.ref x0, .int x1] h Q := by
  unfold F_J4_charAt_5068e at hF
  refine mm_Run_in (by decide) (by decide) (Nat.le_of_ble_eq_true rfl) ?_
  show mm_Ex (mm_Run X (d + 2)) 244 Q (0, [], [(0, .ref x0), (1, .int x1)], h) c k
  refine go_adv hX c_244 2 (F2 := (2, [.int x1, .ref x0], [(0, .ref x0), (1, .int x1)], h)) rfl ?_
  obtain ⟨_, e1, hF⟩ := mm_bind hF
  obtain ⟨v2, e3, hF⟩ := mm_bind hF
  refine go_cSU hX (As := [.int x1]) (rv := some (.int v2)) (h2 := h) (ci := 7) c_244 rfl (by decide) (Nat.le_of_ble_eq_true rfl) rfl rfl e1 (by decide) (Nat.le_of_ble_eq_true rfl) (fun Q2 hQ2 => r_J5_charAt_5068e hX hS (d := d) e3 hQ2) ?_
  obtain ⟨v4, e5, hF⟩ := mm_bind hF
  obtain ⟨rfl, e5n⟩ := fx_nar_s e5
  cases hF
  exact go_iret hX c_244 rfl rfl e5n hQ
theorem c_7 : mm_cd 7 = k_X1_charactersThatFit := rfl
def F_X1_charactersThatFit_L2 (S : Nat → Nat) (h : mm_S) : Nat → Nat → Nat → Int32 → Int32 → Option (Int32 ⊕ Unit)
  | 0, _, _, _, _ => none
  | n + 1, x0, x1, x2, x3 =>
    (fx_ms h x1).bind fun _ =>
    (F_J0_length_8abf5 S h x1).bind fun v2 =>
    if v2 ≤ x3 then
      some (.inr (()))
    else
      (fx_gR h x0 1 0).bind fun v5 =>
      (fx_is h v5 7).bind fun _ =>
      (F_J4_length_8abf5 h v5).bind fun v8 =>
      if (x2 + x3) < v8 then
        (fx_ms h x1).bind fun _ =>
        (F_J0_charAt_5068e S h x1 x3).bind fun v12 =>
        (fx_gR h x0 1 0).bind fun v14 =>
        (fx_is h v14 7).bind fun _ =>
        (F_J4_charAt_5068e S h v14 (x2 + x3)).bind fun v17 =>
        if v12 ≠ (kb 35) then
          if v17 = v12 then
            F_X1_charactersThatFit_L2 S h n x0 x1 x2 (x3 + ki 1)
          else
            some (.inl x3)
        else
          (F_X1_isDigit h v17).bind fun v21 =>
          if v21 ≠ 0 then
            F_X1_charactersThatFit_L2 S h n x0 x1 x2 (x3 + ki 1)
          else
            some (.inl x3)
      else
        some (.inl x3)
def F_X1_charactersThatFit (S : Nat → Nat) (h : mm_S) (x0 : Nat) (x1 : Nat) (x2 : Int32) : Option Int32 :=
  (F_X1_charactersThatFit_L2 S h 1000 x0 x1 x2 (ki 0)).bind fun o24 => match o24 with
    | .inl o24r => some o24r
    | .inr o24e =>
      (fx_ms h x1).bind fun _ =>
      (F_J0_length_8abf5 S h x1).bind fun v27 =>
      some v27
theorem r_X1_charactersThatFit_L2 {X : mm_Cl} (hX : mm_mono X) {S : Nat → Nat} (hS : mm_XS S X) {d c k : Nat} {Q : mm_Re → Prop} {h : mm_S} : ∀ (n : Nat) (x0 : Nat) (x1 : Nat) (x2 : Int32) (x3 : Int32) (o : (Int32 ⊕ Unit)), F_X1_charactersThatFit_L2 S h n x0 x1 x2 x3 = some o → (∀ r, o = .inl r → Q (.inl (some (.int r)), h)) → (∀ e, o = .inr e → mm_Ex (mm_Run X (d + 3)) 7 Q (77, [], [(1, .ref x1)], h) c k) → mm_Ex (mm_Run X (d + 3)) 7 Q (2, [], [(0, .ref x0), (1, .ref x1), (2, .int x2), (3, .int x3)], h) c k := by
  intro n
  induction n with
  | zero => intro x0 x1 x2 x3 o hF; cases hF
  | succ n ih =>
    intro x0 x1 x2 x3 o hF hR hE
    unfold F_X1_charactersThatFit_L2 at hF
    refine go_adv hX c_7 2 (F2 := (4, [.ref x1, .int x3], [(0, .ref x0), (1, .ref x1), (2, .int x2), (3, .int x3)], h)) rfl ?_
    obtain ⟨_, e1, hF⟩ := mm_bind hF
    obtain ⟨v2, e3, hF⟩ := mm_bind hF
    refine go_cVS hX (As := []) (rv := some (.int v2)) (h2 := h) c_7 rfl (Nat.le_of_ble_eq_true rfl) rfl rfl e1 (by decide) (Nat.le_of_ble_eq_true rfl) (fun Q2 hQ2 => r_J0_length_8abf5 hX hS (d := (d + 2)) e3 hQ2) ?_
    rcases mm_ite hF with ⟨hc4, hF⟩ | ⟨hc4, hF⟩
    · refine go_ct hX 77 c_7 rfl rfl hc4 ?_
      cases hF
      refine go_ls [(1, .ref x1)] ⟨rfl, trivial⟩ ?_
      exact hE _ rfl
    · refine go_cf hX c_7 rfl (by decide) hc4 ?_
      refine go_adv hX c_7 4 (F2 := (14, [.ref x0, .int (x2 + x3)], [(0, .ref x0), (1, .ref x1), (2, .int x2), (3, .int x3)], h)) rfl ?_
      obtain ⟨v5, e6, hF⟩ := mm_bind hF
      refine go_gR hX c_7 rfl e6 ?_
      obtain ⟨_, e7, hF⟩ := mm_bind hF
      obtain ⟨v8, e9, hF⟩ := mm_bind hF
      refine go_cV hX (As := []) (rv := some (.int v8)) (h2 := h) (ci := 7) c_7 rfl (Nat.le_of_ble_eq_true rfl) rfl rfl e7 (by decide) (Nat.le_of_ble_eq_true rfl) (fun Q2 hQ2 => r_J4_length_8abf5 hX (d := (d + 1)) e9 hQ2) ?_
      rcases mm_ite hF with ⟨hc10, hF⟩ | ⟨hc10, hF⟩
      · refine go_ct hX 25 c_7 rfl rfl hc10 ?_
        refine go_adv hX c_7 2 (F2 := (27, [.int x3, .ref x1], [(0, .ref x0), (1, .ref x1), (2, .int x2), (3, .int x3)], h)) rfl ?_
        obtain ⟨_, e11, hF⟩ := mm_bind hF
        obtain ⟨v12, e13, hF⟩ := mm_bind hF
        refine go_cVS hX (As := [.int x3]) (rv := some (.int v12)) (h2 := h) c_7 rfl (Nat.le_of_ble_eq_true rfl) rfl rfl e11 (by decide) (Nat.le_of_ble_eq_true rfl) (fun Q2 hQ2 => r_J0_charAt_5068e hX hS (d := (d + 2)) e13 hQ2) ?_
        refine go_adv hX c_7 2 (F2 := (33, [.ref x0], [(4, .int v12), (0, .ref x0), (1, .ref x1), (2, .int x2), (3, .int x3)], h)) rfl ?_
        obtain ⟨v14, e15, hF⟩ := mm_bind hF
        refine go_gR hX c_7 rfl e15 ?_
        refine go_adv hX c_7 3 (F2 := (39, [.int (x2 + x3), .ref v14], [(4, .int v12), (0, .ref x0), (1, .ref x1), (2, .int x2), (3, .int x3)], h)) rfl ?_
        obtain ⟨_, e16, hF⟩ := mm_bind hF
        obtain ⟨v17, e18, hF⟩ := mm_bind hF
        refine go_cV hX (As := [.int (x2 + x3)]) (rv := some (.int v17)) (h2 := h) (ci := 7) c_7 rfl (Nat.le_of_ble_eq_true rfl) rfl rfl e16 (by decide) (Nat.le_of_ble_eq_true rfl) (fun Q2 hQ2 => r_J4_charAt_5068e hX hS (d := d) e18 hQ2) ?_
        refine go_adv hX c_7 3 (F2 := (48, [.int (kb 35), .int v12], [(5, .int v17), (4, .int v12), (0, .ref x0), (1, .ref x1), (2, .int x2), (3, .int x3)], h)) rfl ?_
        rcases mm_ite hF with ⟨hc19, hF⟩ | ⟨hc19, hF⟩
        · refine go_ct hX 62 c_7 rfl rfl hc19 ?_
          refine go_adv hX c_7 2 (F2 := (66, [.int v12, .int v17], [(5, .int v17), (4, .int v12), (0, .ref x0), (1, .ref x1), (2, .int x2), (3, .int x3)], h)) rfl ?_
          rcases mm_ite hF with ⟨hc20, hF⟩ | ⟨hc20, hF⟩
          · refine go_ct hX 71 c_7 rfl rfl hc20 ?_
            refine go_adv hX c_7 1 (F2 := (74, [], [(3, .int (x3 + ki 1)), (5, .int v17), (4, .int v12), (0, .ref x0), (1, .ref x1), (2, .int x2)], h)) rfl ?_
            refine go_to hX 2 c_7 rfl rfl ?_
            refine go_ls [(0, .ref x0), (1, .ref x1), (2, .int x2), (3, .int (x3 + ki 1))] ⟨rfl, ⟨rfl, ⟨rfl, ⟨rfl, trivial⟩⟩⟩⟩ ?_
            exact ih x0 x1 x2 (x3 + ki 1) _ hF hR hE
          · refine go_cf hX c_7 rfl (by decide) hc20 ?_
            refine go_adv hX c_7 1 (F2 := (70, [.int x3], [(5, .int v17), (4, .int v12), (0, .ref x0), (1, .ref x1), (2, .int x2), (3, .int x3)], h)) rfl ?_
            cases hF
            have hQ := hR _ rfl
            exact go_iret hX c_7 rfl rfl rfl hQ
        · refine go_cf hX c_7 rfl (by decide) hc19 ?_
          refine go_adv hX c_7 1 (F2 := (53, [.int v17], [(5, .int v17), (4, .int v12), (0, .ref x0), (1, .ref x1), (2, .int x2), (3, .int x3)], h)) rfl ?_
          obtain ⟨v21, e22, hF⟩ := mm_bind hF
          refine go_cS hX (As := [.int v17]) (rv := some (.int v21)) (h2 := h) c_7 rfl (by decide) (Nat.le_of_ble_eq_true rfl) rfl rfl (Nat.le_of_ble_eq_true rfl) (fun Q2 hQ2 => r_X1_isDigit hX (d := (d + 1)) e22 hQ2) ?_
          rcases mm_ite hF with ⟨hc23, hF⟩ | ⟨hc23, hF⟩
          · refine go_zt hX 71 c_7 rfl rfl hc23 ?_
            refine go_adv hX c_7 1 (F2 := (74, [], [(3, .int (x3 + ki 1)), (5, .int v17), (4, .int v12), (0, .ref x0), (1, .ref x1), (2, .int x2)], h)) rfl ?_
            refine go_to hX 2 c_7 rfl rfl ?_
            refine go_ls [(0, .ref x0), (1, .ref x1), (2, .int x2), (3, .int (x3 + ki 1))] ⟨rfl, ⟨rfl, ⟨rfl, ⟨rfl, trivial⟩⟩⟩⟩ ?_
            exact ih x0 x1 x2 (x3 + ki 1) _ hF hR hE
          · refine go_zf hX c_7 rfl (by decide) hc23 ?_
            refine go_to hX 69 c_7 rfl rfl ?_
            refine go_adv hX c_7 1 (F2 := (70, [.int x3], [(5, .int v17), (4, .int v12), (0, .ref x0), (1, .ref x1), (2, .int x2), (3, .int x3)], h)) rfl ?_
            cases hF
            have hQ := hR _ rfl
            exact go_iret hX c_7 rfl rfl rfl hQ
      · refine go_cf hX c_7 rfl (by decide) hc10 ?_
        refine go_adv hX c_7 1 (F2 := (24, [.int x3], [(0, .ref x0), (1, .ref x1), (2, .int x2), (3, .int x3)], h)) rfl ?_
        cases hF
        have hQ := hR _ rfl
        exact go_iret hX c_7 rfl rfl rfl hQ
theorem r_X1_charactersThatFit {X : mm_Cl} (hX : mm_mono X) {S : Nat → Nat} (hS : mm_XS S X) {d c k : Nat} {Q : mm_Re → Prop} {h : mm_S} {x0 : Nat} {x1 : Nat} {x2 : Int32} {o : Int32} (hF : F_X1_charactersThatFit S h x0 x1 x2 = some o) (hQ : Q (.inl (some (.int o)), h)) : mm_Run X (d + 4) 7 c k [.ref x0, .ref x1, .int x2] h Q := by
  unfold F_X1_charactersThatFit at hF
  refine mm_Run_in (by decide) (by decide) (Nat.le_of_ble_eq_true rfl) ?_
  show mm_Ex (mm_Run X (d + 3)) 7 Q (0, [], [(0, .ref x0), (1, .ref x1), (2, .int x2)], h) c k
  refine go_adv hX c_7 2 (F2 := (2, [], [(3, .int (ki 0)), (0, .ref x0), (1, .ref x1), (2, .int x2)], h)) rfl ?_
  refine go_ls [(0, .ref x0), (1, .ref x1), (2, .int x2), (3, .int (ki 0))] ⟨rfl, ⟨rfl, ⟨rfl, ⟨rfl, trivial⟩⟩⟩⟩ ?_
  obtain ⟨o24, e25, hF⟩ := mm_bind hF
  refine r_X1_charactersThatFit_L2 hX hS 1000 x0 x1 x2 (ki 0) o24 e25 ?_ ?_
  · intro o24r hr
    subst hr
    dsimp only at hF
    cases hF
    exact hQ
  · intro o24e he
    subst he
    dsimp only at hF
    refine go_adv hX c_7 1 (F2 := (78, [.ref x1], [(1, .ref x1)], h)) rfl ?_
    obtain ⟨_, e26, hF⟩ := mm_bind hF
    obtain ⟨v27, e28, hF⟩ := mm_bind hF
    refine go_cVS hX (As := []) (rv := some (.int v27)) (h2 := h) c_7 rfl (Nat.le_of_ble_eq_true rfl) rfl rfl e26 (by decide) (Nat.le_of_ble_eq_true rfl) (fun Q2 hQ2 => r_J0_length_8abf5 hX hS (d := (d + 2)) e28 hQ2) ?_
    cases hF
    exact go_iret hX c_7 rfl rfl rfl hQ
theorem c_6 : mm_cd 6 = k_X1_kindThatGoesFarthest := rfl
def F_X1_kindThatGoesFarthest_L7 (S : Nat → Nat) (h : mm_S) : Nat → Nat → Int32 → Int32 → Int32 → Int32 → Option Int32
  | 0, _, _, _, _, _ => none
  | n + 1, x0, x1, x2, x3, x4 =>
    if (kb 9) ≤ x4 then
      some x2
    else
      (F_X1_formOf S h x4).bind fun v2 =>
      (fx_is h x0 1).bind fun _ =>
      (F_X1_charactersThatFit S h x0 v2 x1).bind fun v5 =>
      if v5 ≤ x3 then
        F_X1_kindThatGoesFarthest_L7 S h n x0 x1 x2 x3 (x4 + ki 1)
      else
        F_X1_kindThatGoesFarthest_L7 S h n x0 x1 x4 v5 (x4 + ki 1)
def F_X1_kindThatGoesFarthest (S : Nat → Nat) (h : mm_S) (x0 : Nat) (x1 : Int32) : Option Int32 :=
  (F_X1_kindThatGoesFarthest_L7 S h 1000 x0 x1 (ki 0) (ki 0) (ki 0)).bind fun o8 =>
  some o8
theorem r_X1_kindThatGoesFarthest_L7 {X : mm_Cl} (hX : mm_mono X) {S : Nat → Nat} (hS : mm_XS S X) {d c k : Nat} {Q : mm_Re → Prop} {h : mm_S} : ∀ (n : Nat) (x0 : Nat) (x1 : Int32) (x2 : Int32) (x3 : Int32) (x4 : Int32) (o : Int32), F_X1_kindThatGoesFarthest_L7 S h n x0 x1 x2 x3 x4 = some o → (mm_Ex (mm_Run X (d + 4)) 6 Q (44, [], [(2, .int o)], h) c k) → mm_Ex (mm_Run X (d + 4)) 6 Q (7, [], [(0, .ref x0), (1, .int x1), (2, .int x2), (3, .int x3), (4, .int x4)], h) c k := by
  intro n
  induction n with
  | zero => intro x0 x1 x2 x3 x4 o hF; cases hF
  | succ n ih =>
    intro x0 x1 x2 x3 x4 o hF hE
    unfold F_X1_kindThatGoesFarthest_L7 at hF
    refine go_adv hX c_6 2 (F2 := (11, [.int (kb 9), .int x4], [(0, .ref x0), (1, .int x1), (2, .int x2), (3, .int x3), (4, .int x4)], h)) rfl ?_
    rcases mm_ite hF with ⟨hc1, hF⟩ | ⟨hc1, hF⟩
    · refine go_ct hX 44 c_6 rfl rfl hc1 ?_
      cases hF
      refine go_ls [(2, .int x2)] ⟨rfl, trivial⟩ ?_
      exact hE
    · refine go_cf hX c_6 rfl (by decide) hc1 ?_
      refine go_adv hX c_6 2 (F2 := (17, [.int x4, .ref x0], [(0, .ref x0), (1, .int x1), (2, .int x2), (3, .int x3), (4, .int x4)], h)) rfl ?_
      obtain ⟨v2, e3, hF⟩ := mm_bind hF
      refine go_cS hX (As := [.int x4]) (rv := some (.ref v2)) (h2 := h) c_6 rfl (by decide) (Nat.le_of_ble_eq_true rfl) rfl rfl (Nat.le_of_ble_eq_true rfl) (fun Q2 hQ2 => r_X1_formOf hX hS (d := (d + 3)) e3 hQ2) ?_
      refine go_adv hX c_6 1 (F2 := (21, [.int x1, .ref v2, .ref x0], [(0, .ref x0), (1, .int x1), (2, .int x2), (3, .int x3), (4, .int x4)], h)) rfl ?_
      obtain ⟨_, e4, hF⟩ := mm_bind hF
      obtain ⟨v5, e6, hF⟩ := mm_bind hF
      refine go_cV hX (As := [.ref v2, .int x1]) (rv := some (.int v5)) (h2 := h) (ci := 1) c_6 rfl (Nat.le_of_ble_eq_true rfl) rfl rfl e4 (by decide) (Nat.le_of_ble_eq_true rfl) (fun Q2 hQ2 => r_X1_charactersThatFit hX hS (d := d) e6 hQ2) ?_
      refine go_adv hX c_6 3 (F2 := (29, [.int x3, .int v5], [(5, .int v5), (0, .ref x0), (1, .int x1), (2, .int x2), (3, .int x3), (4, .int x4)], h)) rfl ?_
      rcases mm_ite hF with ⟨hc7, hF⟩ | ⟨hc7, hF⟩
      · refine go_ct hX 38 c_6 rfl rfl hc7 ?_
        refine go_adv hX c_6 1 (F2 := (41, [], [(4, .int (x4 + ki 1)), (5, .int v5), (0, .ref x0), (1, .int x1), (2, .int x2), (3, .int x3)], h)) rfl ?_
        refine go_to hX 7 c_6 rfl rfl ?_
        refine go_ls [(0, .ref x0), (1, .int x1), (2, .int x2), (3, .int x3), (4, .int (x4 + ki 1))] ⟨rfl, ⟨rfl, ⟨rfl, ⟨rfl, ⟨rfl, trivial⟩⟩⟩⟩⟩ ?_
        exact ih x0 x1 x2 x3 (x4 + ki 1) _ hF hE
      · refine go_cf hX c_6 rfl (by decide) hc7 ?_
        refine go_adv hX c_6 5 (F2 := (41, [], [(4, .int (x4 + ki 1)), (2, .int x4), (3, .int v5), (5, .int v5), (0, .ref x0), (1, .int x1)], h)) rfl ?_
        refine go_to hX 7 c_6 rfl rfl ?_
        refine go_ls [(0, .ref x0), (1, .int x1), (2, .int x4), (3, .int v5), (4, .int (x4 + ki 1))] ⟨rfl, ⟨rfl, ⟨rfl, ⟨rfl, ⟨rfl, trivial⟩⟩⟩⟩⟩ ?_
        exact ih x0 x1 x4 v5 (x4 + ki 1) _ hF hE
theorem r_X1_kindThatGoesFarthest {X : mm_Cl} (hX : mm_mono X) {S : Nat → Nat} (hS : mm_XS S X) {d c k : Nat} {Q : mm_Re → Prop} {h : mm_S} {x0 : Nat} {x1 : Int32} {o : Int32} (hF : F_X1_kindThatGoesFarthest S h x0 x1 = some o) (hQ : Q (.inl (some (.int o)), h)) : mm_Run X (d + 5) 6 c k [.ref x0, .int x1] h Q := by
  unfold F_X1_kindThatGoesFarthest at hF
  refine mm_Run_in (by decide) (by decide) (Nat.le_of_ble_eq_true rfl) ?_
  show mm_Ex (mm_Run X (d + 4)) 6 Q (0, [], [(0, .ref x0), (1, .int x1)], h) c k
  refine go_adv hX c_6 6 (F2 := (7, [], [(4, .int (ki 0)), (3, .int (ki 0)), (2, .int (ki 0)), (0, .ref x0), (1, .int x1)], h)) rfl ?_
  refine go_ls [(0, .ref x0), (1, .int x1), (2, .int (ki 0)), (3, .int (ki 0)), (4, .int (ki 0))] ⟨rfl, ⟨rfl, ⟨rfl, ⟨rfl, ⟨rfl, trivial⟩⟩⟩⟩⟩ ?_
  obtain ⟨o8, e9, hF⟩ := mm_bind hF
  refine r_X1_kindThatGoesFarthest_L7 hX hS 1000 x0 x1 (ki 0) (ki 0) (ki 0) o8 e9 ?_
  refine go_adv hX c_6 1 (F2 := (45, [.int o8], [(2, .int o8)], h)) rfl ?_
  cases hF
  exact go_iret hX c_6 rfl rfl rfl hQ
theorem c_8 : mm_cd 8 = k_X1_readOrder := rfl
def F_X1_readOrder_L19 (S : Nat → Nat) : Nat → Nat → Int32 → Int32 → Int32 → Nat → Int32 → Int32 → mm_S → Option mm_S
  | 0, _, _, _, _, _, _, _, _ => none
  | n + 1, x0, x1, x2, x3, x4, x5, x6, h =>
    (fx_ms h x4).bind fun _ =>
    (F_J0_length_8abf5 S h x4).bind fun v8 =>
    if v8 ≤ x6 then
      some h
    else
      (fx_gR h x0 1 0).bind fun v11 =>
      (fx_is h v11 7).bind fun _ =>
      (F_J4_length_8abf5 h v11).bind fun v14 =>
      if v14 ≤ (x3 + x6) then
        some h
      else
        (fx_ms h x4).bind fun _ =>
        (F_J0_charAt_5068e S h x4 x6).bind fun v18 =>
        if v18 ≠ (kb 35) then
          F_X1_readOrder_L19 S n x0 x1 x2 x3 x4 x5 (x6 + ki 1) h
        else
          if (ki 3) ≤ x5 then
            F_X1_readOrder_L19 S n x0 x1 x2 x3 x4 x5 (x6 + ki 1) h
          else
            (fx_gR h x0 1 2).bind fun v22 =>
            (fx_aR h v22 x1).bind fun v24 =>
            (fx_gR h x0 1 0).bind fun v26 =>
            (fx_is h v26 7).bind fun _ =>
            (F_J4_charAt_5068e S h v26 (x3 + x6)).bind fun v29 =>
            (fx_sI h v24 x5 (v29 - (kb 48))).bind fun h31 =>
            F_X1_readOrder_L19 S n x0 x1 x2 x3 x4 (x5 + ki 1) (x6 + ki 1) h31
def F_X1_readOrder_B93 (S : Nat → Nat) (h : mm_S) (x0 : Nat) (x1 : Int32) (x2 : Int32) (x3 : Int32) (x4 : Nat) : Option (Int32 × mm_S) :=
  (fx_ms h x4).bind fun _ =>
  (F_J0_length_8abf5 S h x4).bind fun v36 =>
  if x2 ≠ 0 then
    some (x3 + v36, h)
  else
    (fx_gR h x0 1 0).bind fun v39 =>
    (fx_is h v39 7).bind fun _ =>
    (F_J4_length_8abf5 h v39).bind fun v42 =>
    if v42 ≤ (x3 + v36) then
      some (x3 + v36, h)
    else
      (fx_gR h x0 1 0).bind fun v45 =>
      (fx_is h v45 7).bind fun _ =>
      (F_J4_charAt_5068e S h v45 (x3 + v36)).bind fun v48 =>
      (F_X1_isDigit h v48).bind fun v50 =>
      if v50 = 0 then
        some (x3 + v36, h)
      else
        (fx_gR h x0 1 2).bind fun v53 =>
        (fx_aR h v53 x1).bind fun v55 =>
        (fx_gR h x0 1 2).bind fun v57 =>
        (fx_aR h v57 x1).bind fun v59 =>
        (fx_aI h v59 (ki 2)).bind fun v61 =>
        (fx_gR h x0 1 0).bind fun v63 =>
        (fx_is h v63 7).bind fun _ =>
        (F_J4_charAt_5068e S h v63 (x3 + v36)).bind fun v66 =>
        (fx_sI h v55 (ki 2) ((((kb 10) * v61) + v66) - (kb 48))).bind fun h68 =>
        some ((x3 + v36) + ki 1, h68)
def F_X1_readOrder (S : Nat → Nat) (h : mm_S) (x0 : Nat) (x1 : Int32) (x2 : Int32) (x3 : Int32) : Option (Int32 × mm_S) :=
  (F_X1_formOf S h x2).bind fun v1 =>
  (fx_gR h x0 1 1).bind fun v3 =>
  (fx_sI h v3 x1 x2).bind fun h5 =>
  (F_X1_readOrder_L19 S 1000 x0 x1 x2 x3 v1 (ki 0) (ki 0) h5).bind fun o33 =>
  F_X1_readOrder_B93 S o33 x0 x1 x2 x3 v1
theorem r_X1_readOrder_L19 {X : mm_Cl} (hX : mm_mono X) {S : Nat → Nat} (hS : mm_XS S X) {d c k : Nat} {Q : mm_Re → Prop} : ∀ (n : Nat) (x0 : Nat) (x1 : Int32) (x2 : Int32) (x3 : Int32) (x4 : Nat) (x5 : Int32) (x6 : Int32) (h : mm_S) (o : mm_S), F_X1_readOrder_L19 S n x0 x1 x2 x3 x4 x5 x6 h = some o → (mm_Ex (mm_Run X (d + 3)) 8 Q (93, [], [(0, .ref x0), (1, .int x1), (2, .int x2), (3, .int x3), (4, .ref x4)], o) c k) → mm_Ex (mm_Run X (d + 3)) 8 Q (19, [], [(0, .ref x0), (1, .int x1), (2, .int x2), (3, .int x3), (4, .ref x4), (5, .int x5), (6, .int x6)], h) c k := by
  intro n
  induction n with
  | zero => intro x0 x1 x2 x3 x4 x5 x6 h o hF; cases hF
  | succ n ih =>
    intro x0 x1 x2 x3 x4 x5 x6 h o hF hE
    unfold F_X1_readOrder_L19 at hF
    refine go_adv hX c_8 2 (F2 := (23, [.ref x4, .int x6], [(0, .ref x0), (1, .int x1), (2, .int x2), (3, .int x3), (4, .ref x4), (5, .int x5), (6, .int x6)], h)) rfl ?_
    obtain ⟨_, e7, hF⟩ := mm_bind hF
    obtain ⟨v8, e9, hF⟩ := mm_bind hF
    refine go_cVS hX (As := []) (rv := some (.int v8)) (h2 := h) c_8 rfl (Nat.le_of_ble_eq_true rfl) rfl rfl e7 (by decide) (Nat.le_of_ble_eq_true rfl) (fun Q2 hQ2 => r_J0_length_8abf5 hX hS (d := (d + 2)) e9 hQ2) ?_
    rcases mm_ite hF with ⟨hc10, hF⟩ | ⟨hc10, hF⟩
    · refine go_ct hX 93 c_8 rfl rfl hc10 ?_
      cases hF
      refine go_ls [(0, .ref x0), (1, .int x1), (2, .int x2), (3, .int x3), (4, .ref x4)] ⟨rfl, ⟨rfl, ⟨rfl, ⟨rfl, ⟨rfl, trivial⟩⟩⟩⟩⟩ ?_
      exact hE
    · refine go_cf hX c_8 rfl (by decide) hc10 ?_
      refine go_adv hX c_8 4 (F2 := (34, [.ref x0, .int (x3 + x6)], [(0, .ref x0), (1, .int x1), (2, .int x2), (3, .int x3), (4, .ref x4), (5, .int x5), (6, .int x6)], h)) rfl ?_
      obtain ⟨v11, e12, hF⟩ := mm_bind hF
      refine go_gR hX c_8 rfl e12 ?_
      obtain ⟨_, e13, hF⟩ := mm_bind hF
      obtain ⟨v14, e15, hF⟩ := mm_bind hF
      refine go_cV hX (As := []) (rv := some (.int v14)) (h2 := h) (ci := 7) c_8 rfl (Nat.le_of_ble_eq_true rfl) rfl rfl e13 (by decide) (Nat.le_of_ble_eq_true rfl) (fun Q2 hQ2 => r_J4_length_8abf5 hX (d := (d + 1)) e15 hQ2) ?_
      rcases mm_ite hF with ⟨hc16, hF⟩ | ⟨hc16, hF⟩
      · refine go_ct hX 93 c_8 rfl rfl hc16 ?_
        cases hF
        refine go_ls [(0, .ref x0), (1, .int x1), (2, .int x2), (3, .int x3), (4, .ref x4)] ⟨rfl, ⟨rfl, ⟨rfl, ⟨rfl, ⟨rfl, trivial⟩⟩⟩⟩⟩ ?_
        exact hE
      · refine go_cf hX c_8 rfl (by decide) hc16 ?_
        refine go_adv hX c_8 2 (F2 := (47, [.int x6, .ref x4], [(0, .ref x0), (1, .int x1), (2, .int x2), (3, .int x3), (4, .ref x4), (5, .int x5), (6, .int x6)], h)) rfl ?_
        obtain ⟨_, e17, hF⟩ := mm_bind hF
        obtain ⟨v18, e19, hF⟩ := mm_bind hF
        refine go_cVS hX (As := [.int x6]) (rv := some (.int v18)) (h2 := h) c_8 rfl (Nat.le_of_ble_eq_true rfl) rfl rfl e17 (by decide) (Nat.le_of_ble_eq_true rfl) (fun Q2 hQ2 => r_J0_charAt_5068e hX hS (d := (d + 2)) e19 hQ2) ?_
        refine go_adv hX c_8 1 (F2 := (52, [.int (kb 35), .int v18], [(0, .ref x0), (1, .int x1), (2, .int x2), (3, .int x3), (4, .ref x4), (5, .int x5), (6, .int x6)], h)) rfl ?_
        rcases mm_ite hF with ⟨hc20, hF⟩ | ⟨hc20, hF⟩
        · refine go_ct hX 87 c_8 rfl rfl hc20 ?_
          refine go_adv hX c_8 1 (F2 := (90, [], [(6, .int (x6 + ki 1)), (0, .ref x0), (1, .int x1), (2, .int x2), (3, .int x3), (4, .ref x4), (5, .int x5)], h)) rfl ?_
          refine go_to hX 19 c_8 rfl rfl ?_
          refine go_ls [(0, .ref x0), (1, .int x1), (2, .int x2), (3, .int x3), (4, .ref x4), (5, .int x5), (6, .int (x6 + ki 1))] ⟨rfl, ⟨rfl, ⟨rfl, ⟨rfl, ⟨rfl, ⟨rfl, ⟨rfl, trivial⟩⟩⟩⟩⟩⟩⟩ ?_
          exact ih x0 x1 x2 x3 x4 x5 (x6 + ki 1) h _ hF hE
        · refine go_cf hX c_8 rfl (by decide) hc20 ?_
          refine go_adv hX c_8 2 (F2 := (58, [.int (ki 3), .int x5], [(0, .ref x0), (1, .int x1), (2, .int x2), (3, .int x3), (4, .ref x4), (5, .int x5), (6, .int x6)], h)) rfl ?_
          rcases mm_ite hF with ⟨hc21, hF⟩ | ⟨hc21, hF⟩
          · refine go_ct hX 87 c_8 rfl rfl hc21 ?_
            refine go_adv hX c_8 1 (F2 := (90, [], [(6, .int (x6 + ki 1)), (0, .ref x0), (1, .int x1), (2, .int x2), (3, .int x3), (4, .ref x4), (5, .int x5)], h)) rfl ?_
            refine go_to hX 19 c_8 rfl rfl ?_
            refine go_ls [(0, .ref x0), (1, .int x1), (2, .int x2), (3, .int x3), (4, .ref x4), (5, .int x5), (6, .int (x6 + ki 1))] ⟨rfl, ⟨rfl, ⟨rfl, ⟨rfl, ⟨rfl, ⟨rfl, ⟨rfl, trivial⟩⟩⟩⟩⟩⟩⟩ ?_
            exact ih x0 x1 x2 x3 x4 x5 (x6 + ki 1) h _ hF hE
          · refine go_cf hX c_8 rfl (by decide) hc21 ?_
            refine go_adv hX c_8 1 (F2 := (62, [.ref x0], [(0, .ref x0), (1, .int x1), (2, .int x2), (3, .int x3), (4, .ref x4), (5, .int x5), (6, .int x6)], h)) rfl ?_
            obtain ⟨v22, e23, hF⟩ := mm_bind hF
            refine go_gR hX c_8 rfl e23 ?_
            refine go_adv hX c_8 1 (F2 := (66, [.int x1, .ref v22], [(0, .ref x0), (1, .int x1), (2, .int x2), (3, .int x3), (4, .ref x4), (5, .int x5), (6, .int x6)], h)) rfl ?_
            obtain ⟨v24, e25, hF⟩ := mm_bind hF
            refine go_aR hX c_8 rfl e25 ?_
            refine go_adv hX c_8 2 (F2 := (70, [.ref x0, .int x5, .ref v24], [(0, .ref x0), (1, .int x1), (2, .int x2), (3, .int x3), (4, .ref x4), (5, .int x5), (6, .int x6)], h)) rfl ?_
            obtain ⟨v26, e27, hF⟩ := mm_bind hF
            refine go_gR hX c_8 rfl e27 ?_
            refine go_adv hX c_8 3 (F2 := (77, [.int (x3 + x6), .ref v26, .int x5, .ref v24], [(0, .ref x0), (1, .int x1), (2, .int x2), (3, .int x3), (4, .ref x4), (5, .int x5), (6, .int x6)], h)) rfl ?_
            obtain ⟨_, e28, hF⟩ := mm_bind hF
            obtain ⟨v29, e30, hF⟩ := mm_bind hF
            refine go_cV hX (As := [.int (x3 + x6)]) (rv := some (.int v29)) (h2 := h) (ci := 7) c_8 rfl (Nat.le_of_ble_eq_true rfl) rfl rfl e28 (by decide) (Nat.le_of_ble_eq_true rfl) (fun Q2 hQ2 => r_J4_charAt_5068e hX hS (d := d) e30 hQ2) ?_
            refine go_adv hX c_8 2 (F2 := (83, [.int (v29 - (kb 48)), .int x5, .ref v24], [(0, .ref x0), (1, .int x1), (2, .int x2), (3, .int x3), (4, .ref x4), (5, .int x5), (6, .int x6)], h)) rfl ?_
            obtain ⟨h31, e32, hF⟩ := mm_bind hF
            refine go_sI hX c_8 rfl e32 ?_
            refine go_adv hX c_8 2 (F2 := (90, [], [(6, .int (x6 + ki 1)), (5, .int (x5 + ki 1)), (0, .ref x0), (1, .int x1), (2, .int x2), (3, .int x3), (4, .ref x4)], h31)) rfl ?_
            refine go_to hX 19 c_8 rfl rfl ?_
            refine go_ls [(0, .ref x0), (1, .int x1), (2, .int x2), (3, .int x3), (4, .ref x4), (5, .int (x5 + ki 1)), (6, .int (x6 + ki 1))] ⟨rfl, ⟨rfl, ⟨rfl, ⟨rfl, ⟨rfl, ⟨rfl, ⟨rfl, trivial⟩⟩⟩⟩⟩⟩⟩ ?_
            exact ih x0 x1 x2 x3 x4 (x5 + ki 1) (x6 + ki 1) h31 _ hF hE
theorem r_X1_readOrder_B93 {X : mm_Cl} (hX : mm_mono X) {S : Nat → Nat} (hS : mm_XS S X) {d c k : Nat} {Q : mm_Re → Prop} {h : mm_S} {x0 : Nat} {x1 : Int32} {x2 : Int32} {x3 : Int32} {x4 : Nat} {o : (Int32 × mm_S)} (hF : F_X1_readOrder_B93 S h x0 x1 x2 x3 x4 = some o) (hQ : Q (.inl (some (.int o.1)), o.2)) : mm_Ex (mm_Run X (d + 3)) 8 Q (93, [], [(0, .ref x0), (1, .int x1), (2, .int x2), (3, .int x3), (4, .ref x4)], h) c k := by
  unfold F_X1_readOrder_B93 at hF
  refine go_adv hX c_8 2 (F2 := (96, [.ref x4, .int x3], [(0, .ref x0), (1, .int x1), (2, .int x2), (3, .int x3), (4, .ref x4)], h)) rfl ?_
  obtain ⟨_, e35, hF⟩ := mm_bind hF
  obtain ⟨v36, e37, hF⟩ := mm_bind hF
  refine go_cVS hX (As := []) (rv := some (.int v36)) (h2 := h) c_8 rfl (Nat.le_of_ble_eq_true rfl) rfl rfl e35 (by decide) (Nat.le_of_ble_eq_true rfl) (fun Q2 hQ2 => r_J0_length_8abf5 hX hS (d := (d + 2)) e37 hQ2) ?_
  refine go_adv hX c_8 3 (F2 := (103, [.int x2], [(6, .int (x3 + v36)), (0, .ref x0), (1, .int x1), (2, .int x2), (3, .int x3), (4, .ref x4)], h)) rfl ?_
  rcases mm_ite hF with ⟨hc38, hF⟩ | ⟨hc38, hF⟩
  · refine go_zt hX 168 c_8 rfl rfl hc38 ?_
    refine go_adv hX c_8 1 (F2 := (170, [.int (x3 + v36)], [(6, .int (x3 + v36)), (0, .ref x0), (1, .int x1), (2, .int x2), (3, .int x3), (4, .ref x4)], h)) rfl ?_
    cases hF
    exact go_iret hX c_8 rfl rfl rfl hQ
  · refine go_zf hX c_8 rfl (by decide) hc38 ?_
    refine go_adv hX c_8 2 (F2 := (109, [.ref x0, .int (x3 + v36)], [(6, .int (x3 + v36)), (0, .ref x0), (1, .int x1), (2, .int x2), (3, .int x3), (4, .ref x4)], h)) rfl ?_
    obtain ⟨v39, e40, hF⟩ := mm_bind hF
    refine go_gR hX c_8 rfl e40 ?_
    obtain ⟨_, e41, hF⟩ := mm_bind hF
    obtain ⟨v42, e43, hF⟩ := mm_bind hF
    refine go_cV hX (As := []) (rv := some (.int v42)) (h2 := h) (ci := 7) c_8 rfl (Nat.le_of_ble_eq_true rfl) rfl rfl e41 (by decide) (Nat.le_of_ble_eq_true rfl) (fun Q2 hQ2 => r_J4_length_8abf5 hX (d := (d + 1)) e43 hQ2) ?_
    rcases mm_ite hF with ⟨hc44, hF⟩ | ⟨hc44, hF⟩
    · refine go_ct hX 168 c_8 rfl rfl hc44 ?_
      refine go_adv hX c_8 1 (F2 := (170, [.int (x3 + v36)], [(6, .int (x3 + v36)), (0, .ref x0), (1, .int x1), (2, .int x2), (3, .int x3), (4, .ref x4)], h)) rfl ?_
      cases hF
      exact go_iret hX c_8 rfl rfl rfl hQ
    · refine go_cf hX c_8 rfl (by decide) hc44 ?_
      refine go_adv hX c_8 1 (F2 := (119, [.ref x0], [(6, .int (x3 + v36)), (0, .ref x0), (1, .int x1), (2, .int x2), (3, .int x3), (4, .ref x4)], h)) rfl ?_
      obtain ⟨v45, e46, hF⟩ := mm_bind hF
      refine go_gR hX c_8 rfl e46 ?_
      refine go_adv hX c_8 1 (F2 := (124, [.int (x3 + v36), .ref v45], [(6, .int (x3 + v36)), (0, .ref x0), (1, .int x1), (2, .int x2), (3, .int x3), (4, .ref x4)], h)) rfl ?_
      obtain ⟨_, e47, hF⟩ := mm_bind hF
      obtain ⟨v48, e49, hF⟩ := mm_bind hF
      refine go_cV hX (As := [.int (x3 + v36)]) (rv := some (.int v48)) (h2 := h) (ci := 7) c_8 rfl (Nat.le_of_ble_eq_true rfl) rfl rfl e47 (by decide) (Nat.le_of_ble_eq_true rfl) (fun Q2 hQ2 => r_J4_charAt_5068e hX hS (d := d) e49 hQ2) ?_
      obtain ⟨v50, e51, hF⟩ := mm_bind hF
      refine go_cS hX (As := [.int v48]) (rv := some (.int v50)) (h2 := h) c_8 rfl (by decide) (Nat.le_of_ble_eq_true rfl) rfl rfl (Nat.le_of_ble_eq_true rfl) (fun Q2 hQ2 => r_X1_isDigit hX (d := (d + 1)) e51 hQ2) ?_
      rcases mm_ite hF with ⟨hc52, hF⟩ | ⟨hc52, hF⟩
      · refine go_zt hX 168 c_8 rfl rfl hc52 ?_
        refine go_adv hX c_8 1 (F2 := (170, [.int (x3 + v36)], [(6, .int (x3 + v36)), (0, .ref x0), (1, .int x1), (2, .int x2), (3, .int x3), (4, .ref x4)], h)) rfl ?_
        cases hF
        exact go_iret hX c_8 rfl rfl rfl hQ
      · refine go_zf hX c_8 rfl (by decide) hc52 ?_
        refine go_adv hX c_8 1 (F2 := (134, [.ref x0], [(6, .int (x3 + v36)), (0, .ref x0), (1, .int x1), (2, .int x2), (3, .int x3), (4, .ref x4)], h)) rfl ?_
        obtain ⟨v53, e54, hF⟩ := mm_bind hF
        refine go_gR hX c_8 rfl e54 ?_
        refine go_adv hX c_8 1 (F2 := (138, [.int x1, .ref v53], [(6, .int (x3 + v36)), (0, .ref x0), (1, .int x1), (2, .int x2), (3, .int x3), (4, .ref x4)], h)) rfl ?_
        obtain ⟨v55, e56, hF⟩ := mm_bind hF
        refine go_aR hX c_8 rfl e56 ?_
        refine go_adv hX c_8 3 (F2 := (143, [.ref x0, .int (kb 10), .int (ki 2), .ref v55], [(6, .int (x3 + v36)), (0, .ref x0), (1, .int x1), (2, .int x2), (3, .int x3), (4, .ref x4)], h)) rfl ?_
        obtain ⟨v57, e58, hF⟩ := mm_bind hF
        refine go_gR hX c_8 rfl e58 ?_
        refine go_adv hX c_8 1 (F2 := (147, [.int x1, .ref v57, .int (kb 10), .int (ki 2), .ref v55], [(6, .int (x3 + v36)), (0, .ref x0), (1, .int x1), (2, .int x2), (3, .int x3), (4, .ref x4)], h)) rfl ?_
        obtain ⟨v59, e60, hF⟩ := mm_bind hF
        refine go_aR hX c_8 rfl e60 ?_
        refine go_adv hX c_8 1 (F2 := (149, [.int (ki 2), .ref v59, .int (kb 10), .int (ki 2), .ref v55], [(6, .int (x3 + v36)), (0, .ref x0), (1, .int x1), (2, .int x2), (3, .int x3), (4, .ref x4)], h)) rfl ?_
        obtain ⟨v61, e62, hF⟩ := mm_bind hF
        refine go_aI hX c_8 rfl e62 ?_
        refine go_adv hX c_8 2 (F2 := (152, [.ref x0, .int ((kb 10) * v61), .int (ki 2), .ref v55], [(6, .int (x3 + v36)), (0, .ref x0), (1, .int x1), (2, .int x2), (3, .int x3), (4, .ref x4)], h)) rfl ?_
        obtain ⟨v63, e64, hF⟩ := mm_bind hF
        refine go_gR hX c_8 rfl e64 ?_
        refine go_adv hX c_8 1 (F2 := (157, [.int (x3 + v36), .ref v63, .int ((kb 10) * v61), .int (ki 2), .ref v55], [(6, .int (x3 + v36)), (0, .ref x0), (1, .int x1), (2, .int x2), (3, .int x3), (4, .ref x4)], h)) rfl ?_
        obtain ⟨_, e65, hF⟩ := mm_bind hF
        obtain ⟨v66, e67, hF⟩ := mm_bind hF
        refine go_cV hX (As := [.int (x3 + v36)]) (rv := some (.int v66)) (h2 := h) (ci := 7) c_8 rfl (Nat.le_of_ble_eq_true rfl) rfl rfl e65 (by decide) (Nat.le_of_ble_eq_true rfl) (fun Q2 hQ2 => r_J4_charAt_5068e hX hS (d := d) e67 hQ2) ?_
        refine go_adv hX c_8 3 (F2 := (164, [.int ((((kb 10) * v61) + v66) - (kb 48)), .int (ki 2), .ref v55], [(6, .int (x3 + v36)), (0, .ref x0), (1, .int x1), (2, .int x2), (3, .int x3), (4, .ref x4)], h)) rfl ?_
        obtain ⟨h68, e69, hF⟩ := mm_bind hF
        refine go_sI hX c_8 rfl e69 ?_
        refine go_adv hX c_8 2 (F2 := (170, [.int ((x3 + v36) + ki 1)], [(6, .int ((x3 + v36) + ki 1)), (0, .ref x0), (1, .int x1), (2, .int x2), (3, .int x3), (4, .ref x4)], h68)) rfl ?_
        cases hF
        exact go_iret hX c_8 rfl rfl rfl hQ
theorem r_X1_readOrder {X : mm_Cl} (hX : mm_mono X) {S : Nat → Nat} (hS : mm_XS S X) {d c k : Nat} {Q : mm_Re → Prop} {h : mm_S} {x0 : Nat} {x1 : Int32} {x2 : Int32} {x3 : Int32} {o : (Int32 × mm_S)} (hF : F_X1_readOrder S h x0 x1 x2 x3 = some o) (hQ : Q (.inl (some (.int o.1)), o.2)) : mm_Run X (d + 4) 8 c k [.ref x0, .int x1, .int x2, .int x3] h Q := by
  unfold F_X1_readOrder at hF
  refine mm_Run_in (by decide) (by decide) (Nat.le_of_ble_eq_true rfl) ?_
  show mm_Ex (mm_Run X (d + 3)) 8 Q (0, [], [(0, .ref x0), (1, .int x1), (2, .int x2), (3, .int x3)], h) c k
  refine go_adv hX c_8 1 (F2 := (1, [.int x2], [(0, .ref x0), (1, .int x1), (2, .int x2), (3, .int x3)], h)) rfl ?_
  obtain ⟨v1, e2, hF⟩ := mm_bind hF
  refine go_cS hX (As := [.int x2]) (rv := some (.ref v1)) (h2 := h) c_8 rfl (by decide) (Nat.le_of_ble_eq_true rfl) rfl rfl (Nat.le_of_ble_eq_true rfl) (fun Q2 hQ2 => r_X1_formOf hX hS (d := (d + 2)) e2 hQ2) ?_
  refine go_adv hX c_8 2 (F2 := (7, [.ref x0], [(4, .ref v1), (0, .ref x0), (1, .int x1), (2, .int x2), (3, .int x3)], h)) rfl ?_
  obtain ⟨v3, e4, hF⟩ := mm_bind hF
  refine go_gR hX c_8 rfl e4 ?_
  refine go_adv hX c_8 2 (F2 := (12, [.int x2, .int x1, .ref v3], [(4, .ref v1), (0, .ref x0), (1, .int x1), (2, .int x2), (3, .int x3)], h)) rfl ?_
  obtain ⟨h5, e6, hF⟩ := mm_bind hF
  refine go_sI hX c_8 rfl e6 ?_
  refine go_adv hX c_8 4 (F2 := (19, [], [(6, .int (ki 0)), (5, .int (ki 0)), (4, .ref v1), (0, .ref x0), (1, .int x1), (2, .int x2), (3, .int x3)], h5)) rfl ?_
  refine go_ls [(0, .ref x0), (1, .int x1), (2, .int x2), (3, .int x3), (4, .ref v1), (5, .int (ki 0)), (6, .int (ki 0))] ⟨rfl, ⟨rfl, ⟨rfl, ⟨rfl, ⟨rfl, ⟨rfl, ⟨rfl, trivial⟩⟩⟩⟩⟩⟩⟩ ?_
  obtain ⟨o33, e34, hF⟩ := mm_bind hF
  refine r_X1_readOrder_L19 hX hS 1000 x0 x1 x2 x3 v1 (ki 0) (ki 0) h5 o33 e34 ?_
  refine go_ls [(0, .ref x0), (1, .int x1), (2, .int x2), (3, .int x3), (4, .ref v1)] ⟨rfl, ⟨rfl, ⟨rfl, ⟨rfl, ⟨rfl, trivial⟩⟩⟩⟩⟩ ?_
  exact r_X1_readOrder_B93 hX hS hF hQ
theorem c_5 : mm_cd 5 = k_X1_read := rfl
def F_X1_read_L9 (S : Nat → Nat) : Nat → Nat → Int32 → Int32 → mm_S → Option ((Int32 × mm_S) ⊕ (Int32 × mm_S))
  | 0, _, _, _, _ => none
  | n + 1, x0, x1, x2, h =>
    if (kb 15) ≤ x2 then
      some (.inr ((x1, h)))
    else
      (fx_is h x0 1).bind fun _ =>
      (F_X1_kindThatGoesFarthest S h x0 x1).bind fun v5 =>
      (F_X1_formOf S h v5).bind fun v7 =>
      (fx_is h x0 1).bind fun _ =>
      (F_X1_charactersThatFit S h x0 v7 x1).bind fun v10 =>
      (F_X1_formOf S h v5).bind fun v12 =>
      (fx_ms h v12).bind fun _ =>
      (F_J0_length_8abf5 S h v12).bind fun v15 =>
      if v15 ≤ v10 then
        (fx_is h x0 1).bind fun _ =>
        (F_X1_readOrder S h x0 x2 v5 x1).bind fun v19 =>
        (fx_pV v19.2 x0 1 3 (.int (x2 + (ki 1)))).bind fun h21 =>
        (fx_gR h21 x0 1 0).bind fun v23 =>
        (fx_is h21 v23 7).bind fun _ =>
        (F_J4_length_8abf5 h21 v23).bind fun v26 =>
        if v19.1 < v26 then
          (fx_gR h21 x0 1 0).bind fun v29 =>
          (fx_is h21 v29 7).bind fun _ =>
          (F_J4_charAt_5068e S h21 v29 v19.1).bind fun v32 =>
          if v32 = (kb 59) then
            F_X1_read_L9 S n x0 (v19.1 + ki 1) (x2 + ki 1) h21
          else
            some (.inl (v19.1, h21))
        else
          some (.inl (ki (-1), h21))
      else
        some (.inl (x1 + v10, h))
def F_X1_read (S : Nat → Nat) (h : mm_S) (x0 : Nat) : Option (Int32 × mm_S) :=
  (fx_pV h x0 1 3 (.int (ki 0))).bind fun h1 =>
  (F_X1_read_L9 S 1000 x0 (ki 0) (ki 0) h1).bind fun o35 => match o35 with
    | .inl o35r => some o35r
    | .inr o35e =>
      some (o35e.1, o35e.2)
theorem r_X1_read_L9 {X : mm_Cl} (hX : mm_mono X) {S : Nat → Nat} (hS : mm_XS S X) {d c k : Nat} {Q : mm_Re → Prop} : ∀ (n : Nat) (x0 : Nat) (x1 : Int32) (x2 : Int32) (h : mm_S) (o : ((Int32 × mm_S) ⊕ (Int32 × mm_S))), F_X1_read_L9 S n x0 x1 x2 h = some o → (∀ r, o = .inl r → Q (.inl (some (.int r.1)), r.2)) → (∀ e, o = .inr e → mm_Ex (mm_Run X (d + 5)) 5 Q (101, [], [(1, .int e.1)], e.2) c k) → mm_Ex (mm_Run X (d + 5)) 5 Q (9, [], [(0, .ref x0), (1, .int x1), (2, .int x2)], h) c k := by
  intro n
  induction n with
  | zero => intro x0 x1 x2 h o hF; cases hF
  | succ n ih =>
    intro x0 x1 x2 h o hF hR hE
    unfold F_X1_read_L9 at hF
    refine go_adv hX c_5 2 (F2 := (12, [.int (kb 15), .int x2], [(0, .ref x0), (1, .int x1), (2, .int x2)], h)) rfl ?_
    rcases mm_ite hF with ⟨hc3, hF⟩ | ⟨hc3, hF⟩
    · refine go_ct hX 101 c_5 rfl rfl hc3 ?_
      cases hF
      refine go_ls [(1, .int x1)] ⟨rfl, trivial⟩ ?_
      exact hE _ rfl
    · refine go_cf hX c_5 rfl (by decide) hc3 ?_
      refine go_adv hX c_5 2 (F2 := (17, [.int x1, .ref x0], [(0, .ref x0), (1, .int x1), (2, .int x2)], h)) rfl ?_
      obtain ⟨_, e4, hF⟩ := mm_bind hF
      obtain ⟨v5, e6, hF⟩ := mm_bind hF
      refine go_cV hX (As := [.int x1]) (rv := some (.int v5)) (h2 := h) (ci := 1) c_5 rfl (Nat.le_of_ble_eq_true rfl) rfl rfl e4 (by decide) (Nat.le_of_ble_eq_true rfl) (fun Q2 hQ2 => r_X1_kindThatGoesFarthest hX hS (d := d) e6 hQ2) ?_
      refine go_adv hX c_5 3 (F2 := (23, [.int v5, .ref x0], [(3, .int v5), (0, .ref x0), (1, .int x1), (2, .int x2)], h)) rfl ?_
      obtain ⟨v7, e8, hF⟩ := mm_bind hF
      refine go_cS hX (As := [.int v5]) (rv := some (.ref v7)) (h2 := h) c_5 rfl (by decide) (Nat.le_of_ble_eq_true rfl) rfl rfl (Nat.le_of_ble_eq_true rfl) (fun Q2 hQ2 => r_X1_formOf hX hS (d := (d + 4)) e8 hQ2) ?_
      refine go_adv hX c_5 1 (F2 := (27, [.int x1, .ref v7, .ref x0], [(3, .int v5), (0, .ref x0), (1, .int x1), (2, .int x2)], h)) rfl ?_
      obtain ⟨_, e9, hF⟩ := mm_bind hF
      obtain ⟨v10, e11, hF⟩ := mm_bind hF
      refine go_cV hX (As := [.ref v7, .int x1]) (rv := some (.int v10)) (h2 := h) (ci := 1) c_5 rfl (Nat.le_of_ble_eq_true rfl) rfl rfl e9 (by decide) (Nat.le_of_ble_eq_true rfl) (fun Q2 hQ2 => r_X1_charactersThatFit hX hS (d := (d + 1)) e11 hQ2) ?_
      refine go_adv hX c_5 3 (F2 := (35, [.int v5, .int v10], [(4, .int v10), (3, .int v5), (0, .ref x0), (1, .int x1), (2, .int x2)], h)) rfl ?_
      obtain ⟨v12, e13, hF⟩ := mm_bind hF
      refine go_cS hX (As := [.int v5]) (rv := some (.ref v12)) (h2 := h) c_5 rfl (by decide) (Nat.le_of_ble_eq_true rfl) rfl rfl (Nat.le_of_ble_eq_true rfl) (fun Q2 hQ2 => r_X1_formOf hX hS (d := (d + 4)) e13 hQ2) ?_
      obtain ⟨_, e14, hF⟩ := mm_bind hF
      obtain ⟨v15, e16, hF⟩ := mm_bind hF
      refine go_cVS hX (As := []) (rv := some (.int v15)) (h2 := h) c_5 rfl (Nat.le_of_ble_eq_true rfl) rfl rfl e14 (by decide) (Nat.le_of_ble_eq_true rfl) (fun Q2 hQ2 => r_J0_length_8abf5 hX hS (d := (d + 4)) e16 hQ2) ?_
      rcases mm_ite hF with ⟨hc17, hF⟩ | ⟨hc17, hF⟩
      · refine go_ct hX 49 c_5 rfl rfl hc17 ?_
        refine go_adv hX c_5 4 (F2 := (53, [.int x1, .int v5, .int x2, .ref x0], [(4, .int v10), (3, .int v5), (0, .ref x0), (1, .int x1), (2, .int x2)], h)) rfl ?_
        obtain ⟨_, e18, hF⟩ := mm_bind hF
        obtain ⟨v19, e20, hF⟩ := mm_bind hF
        refine go_cV hX (As := [.int x2, .int v5, .int x1]) (rv := some (.int v19.1)) (h2 := v19.2) (ci := 1) c_5 rfl (Nat.le_of_ble_eq_true rfl) rfl rfl e18 (by decide) (Nat.le_of_ble_eq_true rfl) (fun Q2 hQ2 => r_X1_readOrder hX hS (d := (d + 1)) e20 hQ2) ?_
        refine go_adv hX c_5 5 (F2 := (61, [.int (x2 + (ki 1)), .ref x0], [(1, .int v19.1), (4, .int v10), (3, .int v5), (0, .ref x0), (2, .int x2)], v19.2)) rfl ?_
        obtain ⟨h21, e22, hF⟩ := mm_bind hF
        refine go_pV hX c_5 rfl e22 ?_
        refine go_adv hX c_5 2 (F2 := (66, [.ref x0, .int v19.1], [(1, .int v19.1), (4, .int v10), (3, .int v5), (0, .ref x0), (2, .int x2)], h21)) rfl ?_
        obtain ⟨v23, e24, hF⟩ := mm_bind hF
        refine go_gR hX c_5 rfl e24 ?_
        obtain ⟨_, e25, hF⟩ := mm_bind hF
        obtain ⟨v26, e27, hF⟩ := mm_bind hF
        refine go_cV hX (As := []) (rv := some (.int v26)) (h2 := h21) (ci := 7) c_5 rfl (Nat.le_of_ble_eq_true rfl) rfl rfl e25 (by decide) (Nat.le_of_ble_eq_true rfl) (fun Q2 hQ2 => r_J4_length_8abf5 hX (d := (d + 3)) e27 hQ2) ?_
        rcases mm_ite hF with ⟨hc28, hF⟩ | ⟨hc28, hF⟩
        · refine go_ct hX 77 c_5 rfl rfl hc28 ?_
          refine go_adv hX c_5 1 (F2 := (78, [.ref x0], [(1, .int v19.1), (4, .int v10), (3, .int v5), (0, .ref x0), (2, .int x2)], h21)) rfl ?_
          obtain ⟨v29, e30, hF⟩ := mm_bind hF
          refine go_gR hX c_5 rfl e30 ?_
          refine go_adv hX c_5 1 (F2 := (82, [.int v19.1, .ref v29], [(1, .int v19.1), (4, .int v10), (3, .int v5), (0, .ref x0), (2, .int x2)], h21)) rfl ?_
          obtain ⟨_, e31, hF⟩ := mm_bind hF
          obtain ⟨v32, e33, hF⟩ := mm_bind hF
          refine go_cV hX (As := [.int v19.1]) (rv := some (.int v32)) (h2 := h21) (ci := 7) c_5 rfl (Nat.le_of_ble_eq_true rfl) rfl rfl e31 (by decide) (Nat.le_of_ble_eq_true rfl) (fun Q2 hQ2 => r_J4_charAt_5068e hX hS (d := (d + 2)) e33 hQ2) ?_
          refine go_adv hX c_5 1 (F2 := (87, [.int (kb 59), .int v32], [(1, .int v19.1), (4, .int v10), (3, .int v5), (0, .ref x0), (2, .int x2)], h21)) rfl ?_
          rcases mm_ite hF with ⟨hc34, hF⟩ | ⟨hc34, hF⟩
          · refine go_ct hX 92 c_5 rfl rfl hc34 ?_
            refine go_adv hX c_5 2 (F2 := (98, [], [(2, .int (x2 + ki 1)), (1, .int (v19.1 + ki 1)), (4, .int v10), (3, .int v5), (0, .ref x0)], h21)) rfl ?_
            refine go_to hX 9 c_5 rfl rfl ?_
            refine go_ls [(0, .ref x0), (1, .int (v19.1 + ki 1)), (2, .int (x2 + ki 1))] ⟨rfl, ⟨rfl, ⟨rfl, trivial⟩⟩⟩ ?_
            exact ih x0 (v19.1 + ki 1) (x2 + ki 1) h21 _ hF hR hE
          · refine go_cf hX c_5 rfl (by decide) hc34 ?_
            refine go_adv hX c_5 1 (F2 := (91, [.int v19.1], [(1, .int v19.1), (4, .int v10), (3, .int v5), (0, .ref x0), (2, .int x2)], h21)) rfl ?_
            cases hF
            have hQ := hR _ rfl
            exact go_iret hX c_5 rfl rfl rfl hQ
        · refine go_cf hX c_5 rfl (by decide) hc28 ?_
          refine go_adv hX c_5 1 (F2 := (76, [.int (ki (-1))], [(1, .int v19.1), (4, .int v10), (3, .int v5), (0, .ref x0), (2, .int x2)], h21)) rfl ?_
          cases hF
          have hQ := hR _ rfl
          exact go_iret hX c_5 rfl rfl rfl hQ
      · refine go_cf hX c_5 rfl (by decide) hc17 ?_
        refine go_adv hX c_5 3 (F2 := (48, [.int (x1 + v10)], [(4, .int v10), (3, .int v5), (0, .ref x0), (1, .int x1), (2, .int x2)], h)) rfl ?_
        cases hF
        have hQ := hR _ rfl
        exact go_iret hX c_5 rfl rfl rfl hQ
theorem r_X1_read {X : mm_Cl} (hX : mm_mono X) {S : Nat → Nat} (hS : mm_XS S X) {d c k : Nat} {Q : mm_Re → Prop} {h : mm_S} {x0 : Nat} {o : (Int32 × mm_S)} (hF : F_X1_read S h x0 = some o) (hQ : Q (.inl (some (.int o.1)), o.2)) : mm_Run X (d + 6) 5 c k [.ref x0] h Q := by
  unfold F_X1_read at hF
  refine mm_Run_in (by decide) (by decide) (Nat.le_of_ble_eq_true rfl) ?_
  show mm_Ex (mm_Run X (d + 5)) 5 Q (0, [], [(0, .ref x0)], h) c k
  refine go_adv hX c_5 2 (F2 := (2, [.int (ki 0), .ref x0], [(0, .ref x0)], h)) rfl ?_
  obtain ⟨h1, e2, hF⟩ := mm_bind hF
  refine go_pV hX c_5 rfl e2 ?_
  refine go_adv hX c_5 4 (F2 := (9, [], [(2, .int (ki 0)), (1, .int (ki 0)), (0, .ref x0)], h1)) rfl ?_
  refine go_ls [(0, .ref x0), (1, .int (ki 0)), (2, .int (ki 0))] ⟨rfl, ⟨rfl, ⟨rfl, trivial⟩⟩⟩ ?_
  obtain ⟨o35, e36, hF⟩ := mm_bind hF
  refine r_X1_read_L9 hX hS 1000 x0 (ki 0) (ki 0) h1 o35 e36 ?_ ?_
  · intro o35r hr
    subst hr
    dsimp only at hF
    cases hF
    exact hQ
  · intro o35e he
    subst he
    dsimp only at hF
    refine go_adv hX c_5 1 (F2 := (102, [.int o35e.1], [(1, .int o35e.1)], o35e.2)) rfl ?_
    cases hF
    exact go_iret hX c_5 rfl rfl rfl hQ
theorem c_119 : mm_cd 119 = k_X5_isLanding := rfl
def F_X5_isLanding (h : mm_S) (x0 : Int32) : Option Int32 :=
  (F_X5_isInRange h x0 (ki 0) (kb 7)).bind fun v1 =>
  (fx_nar .boolean v1).bind fun v3 =>
  some v3
theorem r_X5_isLanding {X : mm_Cl} (hX : mm_mono X) {d c k : Nat} {Q : mm_Re → Prop} {h : mm_S} {x0 : Int32} {o : Int32} (hF : F_X5_isLanding h x0 = some o) (hQ : Q (.inl (some (.int o)), h)) : mm_Run X (d + 2) 119 c k [.int x0] h Q := by
  unfold F_X5_isLanding at hF
  refine mm_Run_in (by decide) (by decide) (Nat.le_of_ble_eq_true rfl) ?_
  show mm_Ex (mm_Run X (d + 1)) 119 Q (0, [], [(0, .int x0)], h) c k
  refine go_adv hX c_119 3 (F2 := (4, [.int (kb 7), .int (ki 0), .int x0], [(0, .int x0)], h)) rfl ?_
  obtain ⟨v1, e2, hF⟩ := mm_bind hF
  refine go_cS hX (As := [.int x0, .int (ki 0), .int (kb 7)]) (rv := some (.int v1)) (h2 := h) c_119 rfl (by decide) (Nat.le_of_ble_eq_true rfl) rfl rfl (Nat.le_of_ble_eq_true rfl) (fun Q2 hQ2 => r_X5_isInRange hX (d := d) e2 hQ2) ?_
  obtain ⟨v3, e4, hF⟩ := mm_bind hF
  obtain ⟨rfl, e4n⟩ := fx_nar_s e4
  cases hF
  exact go_iret hX c_119 rfl rfl e4n hQ
theorem c_120 : mm_cd 120 = k_X5_refusalFor := rfl
def F_X5_refusalFor (h : mm_S) (x0 : Int32) (x1 : Int32) : Option Int64 :=
  some ((x0.toInt64 <<< ((kb 32).toInt64 &&& 63)) ||| (x1.toInt64 &&& (kl 4294967295)))
theorem r_X5_refusalFor {X : mm_Cl} (hX : mm_mono X) {d c k : Nat} {Q : mm_Re → Prop} {h : mm_S} {x0 : Int32} {x1 : Int32} {o : Int64} (hF : F_X5_refusalFor h x0 x1 = some o) (hQ : Q (.inl (some (.long o)), h)) : mm_Run X (d + 1) 120 c k [.int x0, .int x1] h Q := by
  unfold F_X5_refusalFor at hF
  refine mm_Run_in (by decide) (by decide) (Nat.le_of_ble_eq_true rfl) ?_
  show mm_Ex (mm_Run X d) 120 Q (0, [], [(0, .int x0), (1, .int x1)], h) c k
  refine go_adv hX c_120 9 (F2 := (12, [.long ((x0.toInt64 <<< ((kb 32).toInt64 &&& 63)) ||| (x1.toInt64 &&& (kl 4294967295)))], [(0, .int x0), (1, .int x1)], h)) rfl ?_
  cases hF
  exact go_lret hX c_120 rfl rfl hQ
theorem c_16 : mm_cd 16 = k_X2_isEnd := rfl
def F_X2_isEnd (h : mm_S) (x0 : Nat) (x1 : Int32) : Option Int32 :=
  (fx_gI h x0 2 0).bind fun v1 =>
  if v1 = x1 then
    some (ki 1)
  else
    (fx_gI h x0 2 1).bind fun v4 =>
    if v4 ≠ x1 then
      some (ki 0)
    else
      some (ki 1)
theorem r_X2_isEnd {X : mm_Cl} (hX : mm_mono X) {d c k : Nat} {Q : mm_Re → Prop} {h : mm_S} {x0 : Nat} {x1 : Int32} {o : Int32} (hF : F_X2_isEnd h x0 x1 = some o) (hQ : Q (.inl (some (.int o)), h)) : mm_Run X (d + 1) 16 c k [.ref x0, .int x1] h Q := by
  unfold F_X2_isEnd at hF
  refine mm_Run_in (by decide) (by decide) (Nat.le_of_ble_eq_true rfl) ?_
  show mm_Ex (mm_Run X d) 16 Q (0, [], [(0, .ref x0), (1, .int x1)], h) c k
  refine go_adv hX c_16 1 (F2 := (1, [.ref x0], [(0, .ref x0), (1, .int x1)], h)) rfl ?_
  obtain ⟨v1, e2, hF⟩ := mm_bind hF
  refine go_gI hX c_16 rfl e2 ?_
  refine go_adv hX c_16 1 (F2 := (5, [.int x1, .int v1], [(0, .ref x0), (1, .int x1)], h)) rfl ?_
  rcases mm_ite hF with ⟨hc3, hF⟩ | ⟨hc3, hF⟩
  · refine go_ct hX 16 c_16 rfl rfl hc3 ?_
    refine go_adv hX c_16 1 (F2 := (17, [.int (ki 1)], [(0, .ref x0), (1, .int x1)], h)) rfl ?_
    refine go_to hX 21 c_16 rfl rfl ?_
    cases hF
    exact go_iret hX c_16 rfl rfl (by decide) hQ
  · refine go_cf hX c_16 rfl (by decide) hc3 ?_
    refine go_adv hX c_16 1 (F2 := (9, [.ref x0], [(0, .ref x0), (1, .int x1)], h)) rfl ?_
    obtain ⟨v4, e5, hF⟩ := mm_bind hF
    refine go_gI hX c_16 rfl e5 ?_
    refine go_adv hX c_16 1 (F2 := (13, [.int x1, .int v4], [(0, .ref x0), (1, .int x1)], h)) rfl ?_
    rcases mm_ite hF with ⟨hc6, hF⟩ | ⟨hc6, hF⟩
    · refine go_ct hX 20 c_16 rfl rfl hc6 ?_
      refine go_adv hX c_16 1 (F2 := (21, [.int (ki 0)], [(0, .ref x0), (1, .int x1)], h)) rfl ?_
      cases hF
      exact go_iret hX c_16 rfl rfl (by decide) hQ
    · refine go_cf hX c_16 rfl (by decide) hc6 ?_
      refine go_adv hX c_16 1 (F2 := (17, [.int (ki 1)], [(0, .ref x0), (1, .int x1)], h)) rfl ?_
      refine go_to hX 21 c_16 rfl rfl ?_
      cases hF
      exact go_iret hX c_16 rfl rfl (by decide) hQ
theorem c_46 : mm_cd 46 = k_X3_stairThatJoins := rfl
def F_X3_stairThatJoins_L2 (h : mm_S) : Nat → Nat → Int32 → Int32 → Int32 → Option (Int32 ⊕ Unit)
  | 0, _, _, _, _ => none
  | n + 1, x0, x1, x2, x3 =>
    (fx_gI h x0 3 3).bind fun v1 =>
    if v1 ≤ x3 then
      some (.inr (()))
    else
      if x1 = x2 then
        F_X3_stairThatJoins_L2 h n x0 x1 x2 (x3 + ki 1)
      else
        (fx_gR h x0 3 2).bind fun v5 =>
        (fx_aR h v5 x3).bind fun v7 =>
        (fx_is h v7 2).bind fun _ =>
        (F_X2_isEnd h v7 x1).bind fun v10 =>
        if v10 = 0 then
          F_X3_stairThatJoins_L2 h n x0 x1 x2 (x3 + ki 1)
        else
          (fx_gR h x0 3 2).bind fun v13 =>
          (fx_aR h v13 x3).bind fun v15 =>
          (fx_is h v15 2).bind fun _ =>
          (F_X2_isEnd h v15 x2).bind fun v18 =>
          if v18 = 0 then
            F_X3_stairThatJoins_L2 h n x0 x1 x2 (x3 + ki 1)
          else
            some (.inl x3)
def F_X3_stairThatJoins (h : mm_S) (x0 : Nat) (x1 : Int32) (x2 : Int32) : Option Int32 :=
  (F_X3_stairThatJoins_L2 h 1000 x0 x1 x2 (ki 0)).bind fun o21 => match o21 with
    | .inl o21r => some o21r
    | .inr o21e =>
      some (ki (-1))
theorem r_X3_stairThatJoins_L2 {X : mm_Cl} (hX : mm_mono X) {d c k : Nat} {Q : mm_Re → Prop} {h : mm_S} : ∀ (n : Nat) (x0 : Nat) (x1 : Int32) (x2 : Int32) (x3 : Int32) (o : (Int32 ⊕ Unit)), F_X3_stairThatJoins_L2 h n x0 x1 x2 x3 = some o → (∀ r, o = .inl r → Q (.inl (some (.int r)), h)) → (∀ e, o = .inr e → mm_Ex (mm_Run X (d + 1)) 46 Q (49, [], [], h) c k) → mm_Ex (mm_Run X (d + 1)) 46 Q (2, [], [(0, .ref x0), (1, .int x1), (2, .int x2), (3, .int x3)], h) c k := by
  intro n
  induction n with
  | zero => intro x0 x1 x2 x3 o hF; cases hF
  | succ n ih =>
    intro x0 x1 x2 x3 o hF hR hE
    unfold F_X3_stairThatJoins_L2 at hF
    refine go_adv hX c_46 2 (F2 := (4, [.ref x0, .int x3], [(0, .ref x0), (1, .int x1), (2, .int x2), (3, .int x3)], h)) rfl ?_
    obtain ⟨v1, e2, hF⟩ := mm_bind hF
    refine go_gI hX c_46 rfl e2 ?_
    rcases mm_ite hF with ⟨hc3, hF⟩ | ⟨hc3, hF⟩
    · refine go_ct hX 49 c_46 rfl rfl hc3 ?_
      cases hF
      refine go_ls [] trivial ?_
      exact hE _ rfl
    · refine go_cf hX c_46 rfl (by decide) hc3 ?_
      refine go_adv hX c_46 2 (F2 := (12, [.int x2, .int x1], [(0, .ref x0), (1, .int x1), (2, .int x2), (3, .int x3)], h)) rfl ?_
      rcases mm_ite hF with ⟨hc4, hF⟩ | ⟨hc4, hF⟩
      · refine go_ct hX 43 c_46 rfl rfl hc4 ?_
        refine go_adv hX c_46 1 (F2 := (46, [], [(3, .int (x3 + ki 1)), (0, .ref x0), (1, .int x1), (2, .int x2)], h)) rfl ?_
        refine go_to hX 2 c_46 rfl rfl ?_
        refine go_ls [(0, .ref x0), (1, .int x1), (2, .int x2), (3, .int (x3 + ki 1))] ⟨rfl, ⟨rfl, ⟨rfl, ⟨rfl, trivial⟩⟩⟩⟩ ?_
        exact ih x0 x1 x2 (x3 + ki 1) _ hF hR hE
      · refine go_cf hX c_46 rfl (by decide) hc4 ?_
        refine go_adv hX c_46 1 (F2 := (16, [.ref x0], [(0, .ref x0), (1, .int x1), (2, .int x2), (3, .int x3)], h)) rfl ?_
        obtain ⟨v5, e6, hF⟩ := mm_bind hF
        refine go_gR hX c_46 rfl e6 ?_
        refine go_adv hX c_46 1 (F2 := (20, [.int x3, .ref v5], [(0, .ref x0), (1, .int x1), (2, .int x2), (3, .int x3)], h)) rfl ?_
        obtain ⟨v7, e8, hF⟩ := mm_bind hF
        refine go_aR hX c_46 rfl e8 ?_
        refine go_adv hX c_46 1 (F2 := (22, [.int x1, .ref v7], [(0, .ref x0), (1, .int x1), (2, .int x2), (3, .int x3)], h)) rfl ?_
        obtain ⟨_, e9, hF⟩ := mm_bind hF
        obtain ⟨v10, e11, hF⟩ := mm_bind hF
        refine go_cV hX (As := [.int x1]) (rv := some (.int v10)) (h2 := h) (ci := 2) c_46 rfl (Nat.le_of_ble_eq_true rfl) rfl rfl e9 (by decide) (Nat.le_of_ble_eq_true rfl) (fun Q2 hQ2 => r_X2_isEnd hX (d := d) e11 hQ2) ?_
        rcases mm_ite hF with ⟨hc12, hF⟩ | ⟨hc12, hF⟩
        · refine go_zt hX 43 c_46 rfl rfl hc12 ?_
          refine go_adv hX c_46 1 (F2 := (46, [], [(3, .int (x3 + ki 1)), (0, .ref x0), (1, .int x1), (2, .int x2)], h)) rfl ?_
          refine go_to hX 2 c_46 rfl rfl ?_
          refine go_ls [(0, .ref x0), (1, .int x1), (2, .int x2), (3, .int (x3 + ki 1))] ⟨rfl, ⟨rfl, ⟨rfl, ⟨rfl, trivial⟩⟩⟩⟩ ?_
          exact ih x0 x1 x2 (x3 + ki 1) _ hF hR hE
        · refine go_zf hX c_46 rfl (by decide) hc12 ?_
          refine go_adv hX c_46 1 (F2 := (29, [.ref x0], [(0, .ref x0), (1, .int x1), (2, .int x2), (3, .int x3)], h)) rfl ?_
          obtain ⟨v13, e14, hF⟩ := mm_bind hF
          refine go_gR hX c_46 rfl e14 ?_
          refine go_adv hX c_46 1 (F2 := (33, [.int x3, .ref v13], [(0, .ref x0), (1, .int x1), (2, .int x2), (3, .int x3)], h)) rfl ?_
          obtain ⟨v15, e16, hF⟩ := mm_bind hF
          refine go_aR hX c_46 rfl e16 ?_
          refine go_adv hX c_46 1 (F2 := (35, [.int x2, .ref v15], [(0, .ref x0), (1, .int x1), (2, .int x2), (3, .int x3)], h)) rfl ?_
          obtain ⟨_, e17, hF⟩ := mm_bind hF
          obtain ⟨v18, e19, hF⟩ := mm_bind hF
          refine go_cV hX (As := [.int x2]) (rv := some (.int v18)) (h2 := h) (ci := 2) c_46 rfl (Nat.le_of_ble_eq_true rfl) rfl rfl e17 (by decide) (Nat.le_of_ble_eq_true rfl) (fun Q2 hQ2 => r_X2_isEnd hX (d := d) e19 hQ2) ?_
          rcases mm_ite hF with ⟨hc20, hF⟩ | ⟨hc20, hF⟩
          · refine go_zt hX 43 c_46 rfl rfl hc20 ?_
            refine go_adv hX c_46 1 (F2 := (46, [], [(3, .int (x3 + ki 1)), (0, .ref x0), (1, .int x1), (2, .int x2)], h)) rfl ?_
            refine go_to hX 2 c_46 rfl rfl ?_
            refine go_ls [(0, .ref x0), (1, .int x1), (2, .int x2), (3, .int (x3 + ki 1))] ⟨rfl, ⟨rfl, ⟨rfl, ⟨rfl, trivial⟩⟩⟩⟩ ?_
            exact ih x0 x1 x2 (x3 + ki 1) _ hF hR hE
          · refine go_zf hX c_46 rfl (by decide) hc20 ?_
            refine go_adv hX c_46 1 (F2 := (42, [.int x3], [(0, .ref x0), (1, .int x1), (2, .int x2), (3, .int x3)], h)) rfl ?_
            cases hF
            have hQ := hR _ rfl
            exact go_iret hX c_46 rfl rfl rfl hQ
theorem r_X3_stairThatJoins {X : mm_Cl} (hX : mm_mono X) {d c k : Nat} {Q : mm_Re → Prop} {h : mm_S} {x0 : Nat} {x1 : Int32} {x2 : Int32} {o : Int32} (hF : F_X3_stairThatJoins h x0 x1 x2 = some o) (hQ : Q (.inl (some (.int o)), h)) : mm_Run X (d + 2) 46 c k [.ref x0, .int x1, .int x2] h Q := by
  unfold F_X3_stairThatJoins at hF
  refine mm_Run_in (by decide) (by decide) (Nat.le_of_ble_eq_true rfl) ?_
  show mm_Ex (mm_Run X (d + 1)) 46 Q (0, [], [(0, .ref x0), (1, .int x1), (2, .int x2)], h) c k
  refine go_adv hX c_46 2 (F2 := (2, [], [(3, .int (ki 0)), (0, .ref x0), (1, .int x1), (2, .int x2)], h)) rfl ?_
  refine go_ls [(0, .ref x0), (1, .int x1), (2, .int x2), (3, .int (ki 0))] ⟨rfl, ⟨rfl, ⟨rfl, ⟨rfl, trivial⟩⟩⟩⟩ ?_
  obtain ⟨o21, e22, hF⟩ := mm_bind hF
  refine r_X3_stairThatJoins_L2 hX 1000 x0 x1 x2 (ki 0) o21 e22 ?_ ?_
  · intro o21r hr
    subst hr
    dsimp only at hF
    cases hF
    exact hQ
  · intro o21e he
    subst he
    dsimp only at hF
    refine go_adv hX c_46 1 (F2 := (50, [.int (ki (-1))], [], h)) rfl ?_
    cases hF
    exact go_iret hX c_46 rfl rfl rfl hQ
theorem c_25 : mm_cd 25 = k_X3_whyNotBuild := rfl
def F_X3_whyNotBuild (h : mm_S) (x0 : Nat) (x1 : Int32) (x2 : Int32) (x3 : Int32) : Option Int64 :=
  (F_X5_isLanding h x1).bind fun v1 =>
  if v1 ≠ 0 then
    (F_X5_isLanding h x2).bind fun v4 =>
    if v4 ≠ 0 then
      (F_X5_isInRange h x3 (ki 1) (kb 40)).bind fun v7 =>
      if v7 ≠ 0 then
        if x1 ≠ x2 then
          (fx_is h x0 3).bind fun _ =>
          (F_X3_stairThatJoins h x0 x1 x2).bind fun v12 =>
          if v12 = (ki (-1)) then
            (fx_gI h x0 3 3).bind fun v15 =>
            if v15 < (kb 10) then
              some (kl 0)
            else
              (fx_gI h x0 3 3).bind fun v18 =>
              (F_X5_refusalFor h (ki 1) v18).bind fun v20 =>
              some v20
          else
            (F_X5_refusalFor h (ki 5) v12).bind fun v22 =>
            some v22
        else
          (F_X5_refusalFor h (ki 4) x1).bind fun v24 =>
          some v24
      else
        (F_X5_refusalFor h (ki 3) x3).bind fun v26 =>
        some v26
    else
      (F_X5_refusalFor h (ki 2) x2).bind fun v28 =>
      some v28
  else
    (F_X5_refusalFor h (ki 2) x1).bind fun v30 =>
    some v30
theorem r_X3_whyNotBuild {X : mm_Cl} (hX : mm_mono X) {d c k : Nat} {Q : mm_Re → Prop} {h : mm_S} {x0 : Nat} {x1 : Int32} {x2 : Int32} {x3 : Int32} {o : Int64} (hF : F_X3_whyNotBuild h x0 x1 x2 x3 = some o) (hQ : Q (.inl (some (.long o)), h)) : mm_Run X (d + 3) 25 c k [.ref x0, .int x1, .int x2, .int x3] h Q := by
  unfold F_X3_whyNotBuild at hF
  refine mm_Run_in (by decide) (by decide) (Nat.le_of_ble_eq_true rfl) ?_
  show mm_Ex (mm_Run X (d + 2)) 25 Q (0, [], [(0, .ref x0), (1, .int x1), (2, .int x2), (3, .int x3)], h) c k
  refine go_adv hX c_25 1 (F2 := (1, [.int x1], [(0, .ref x0), (1, .int x1), (2, .int x2), (3, .int x3)], h)) rfl ?_
  obtain ⟨v1, e2, hF⟩ := mm_bind hF
  refine go_cS hX (As := [.int x1]) (rv := some (.int v1)) (h2 := h) c_25 rfl (by decide) (Nat.le_of_ble_eq_true rfl) rfl rfl (Nat.le_of_ble_eq_true rfl) (fun Q2 hQ2 => r_X5_isLanding hX (d := d) e2 hQ2) ?_
  rcases mm_ite hF with ⟨hc3, hF⟩ | ⟨hc3, hF⟩
  · refine go_zt hX 13 c_25 rfl rfl hc3 ?_
    refine go_adv hX c_25 1 (F2 := (14, [.int x2], [(0, .ref x0), (1, .int x1), (2, .int x2), (3, .int x3)], h)) rfl ?_
    obtain ⟨v4, e5, hF⟩ := mm_bind hF
    refine go_cS hX (As := [.int x2]) (rv := some (.int v4)) (h2 := h) c_25 rfl (by decide) (Nat.le_of_ble_eq_true rfl) rfl rfl (Nat.le_of_ble_eq_true rfl) (fun Q2 hQ2 => r_X5_isLanding hX (d := d) e5 hQ2) ?_
    rcases mm_ite hF with ⟨hc6, hF⟩ | ⟨hc6, hF⟩
    · refine go_zt hX 26 c_25 rfl rfl hc6 ?_
      refine go_adv hX c_25 3 (F2 := (30, [.int (kb 40), .int (ki 1), .int x3], [(0, .ref x0), (1, .int x1), (2, .int x2), (3, .int x3)], h)) rfl ?_
      obtain ⟨v7, e8, hF⟩ := mm_bind hF
      refine go_cS hX (As := [.int x3, .int (ki 1), .int (kb 40)]) (rv := some (.int v7)) (h2 := h) c_25 rfl (by decide) (Nat.le_of_ble_eq_true rfl) rfl rfl (Nat.le_of_ble_eq_true rfl) (fun Q2 hQ2 => r_X5_isInRange hX (d := (d + 1)) e8 hQ2) ?_
      rcases mm_ite hF with ⟨hc9, hF⟩ | ⟨hc9, hF⟩
      · refine go_zt hX 42 c_25 rfl rfl hc9 ?_
        refine go_adv hX c_25 2 (F2 := (44, [.int x2, .int x1], [(0, .ref x0), (1, .int x1), (2, .int x2), (3, .int x3)], h)) rfl ?_
        rcases mm_ite hF with ⟨hc10, hF⟩ | ⟨hc10, hF⟩
        · refine go_ct hX 53 c_25 rfl rfl hc10 ?_
          refine go_adv hX c_25 3 (F2 := (56, [.int x2, .int x1, .ref x0], [(0, .ref x0), (1, .int x1), (2, .int x2), (3, .int x3)], h)) rfl ?_
          obtain ⟨_, e11, hF⟩ := mm_bind hF
          obtain ⟨v12, e13, hF⟩ := mm_bind hF
          refine go_cV hX (As := [.int x1, .int x2]) (rv := some (.int v12)) (h2 := h) (ci := 3) c_25 rfl (Nat.le_of_ble_eq_true rfl) rfl rfl e11 (by decide) (Nat.le_of_ble_eq_true rfl) (fun Q2 hQ2 => r_X3_stairThatJoins hX (d := d) e13 hQ2) ?_
          refine go_adv hX c_25 3 (F2 := (64, [.int (ki (-1)), .int v12], [(4, .int v12), (0, .ref x0), (1, .int x1), (2, .int x2), (3, .int x3)], h)) rfl ?_
          rcases mm_ite hF with ⟨hc14, hF⟩ | ⟨hc14, hF⟩
          · refine go_ct hX 74 c_25 rfl rfl hc14 ?_
            refine go_adv hX c_25 1 (F2 := (75, [.ref x0], [(4, .int v12), (0, .ref x0), (1, .int x1), (2, .int x2), (3, .int x3)], h)) rfl ?_
            obtain ⟨v15, e16, hF⟩ := mm_bind hF
            refine go_gI hX c_25 rfl e16 ?_
            refine go_adv hX c_25 1 (F2 := (80, [.int (kb 10), .int v15], [(4, .int v12), (0, .ref x0), (1, .int x1), (2, .int x2), (3, .int x3)], h)) rfl ?_
            rcases mm_ite hF with ⟨hc17, hF⟩ | ⟨hc17, hF⟩
            · refine go_ct hX 92 c_25 rfl rfl hc17 ?_
              refine go_adv hX c_25 1 (F2 := (93, [.long (kl 0)], [(4, .int v12), (0, .ref x0), (1, .int x1), (2, .int x2), (3, .int x3)], h)) rfl ?_
              cases hF
              exact go_lret hX c_25 rfl rfl hQ
            · refine go_cf hX c_25 rfl (by decide) hc17 ?_
              refine go_adv hX c_25 2 (F2 := (85, [.ref x0, .int (ki 1)], [(4, .int v12), (0, .ref x0), (1, .int x1), (2, .int x2), (3, .int x3)], h)) rfl ?_
              obtain ⟨v18, e19, hF⟩ := mm_bind hF
              refine go_gI hX c_25 rfl e19 ?_
              obtain ⟨v20, e21, hF⟩ := mm_bind hF
              refine go_cS hX (As := [.int (ki 1), .int v18]) (rv := some (.long v20)) (h2 := h) c_25 rfl (by decide) (Nat.le_of_ble_eq_true rfl) rfl rfl (Nat.le_of_ble_eq_true rfl) (fun Q2 hQ2 => r_X5_refusalFor hX (d := (d + 1)) e21 hQ2) ?_
              cases hF
              exact go_lret hX c_25 rfl rfl hQ
          · refine go_cf hX c_25 rfl (by decide) hc14 ?_
            refine go_adv hX c_25 2 (F2 := (70, [.int v12, .int (ki 5)], [(4, .int v12), (0, .ref x0), (1, .int x1), (2, .int x2), (3, .int x3)], h)) rfl ?_
            obtain ⟨v22, e23, hF⟩ := mm_bind hF
            refine go_cS hX (As := [.int (ki 5), .int v12]) (rv := some (.long v22)) (h2 := h) c_25 rfl (by decide) (Nat.le_of_ble_eq_true rfl) rfl rfl (Nat.le_of_ble_eq_true rfl) (fun Q2 hQ2 => r_X5_refusalFor hX (d := (d + 1)) e23 hQ2) ?_
            cases hF
            exact go_lret hX c_25 rfl rfl hQ
        · refine go_cf hX c_25 rfl (by decide) hc10 ?_
          refine go_adv hX c_25 2 (F2 := (49, [.int x1, .int (ki 4)], [(0, .ref x0), (1, .int x1), (2, .int x2), (3, .int x3)], h)) rfl ?_
          obtain ⟨v24, e25, hF⟩ := mm_bind hF
          refine go_cS hX (As := [.int (ki 4), .int x1]) (rv := some (.long v24)) (h2 := h) c_25 rfl (by decide) (Nat.le_of_ble_eq_true rfl) rfl rfl (Nat.le_of_ble_eq_true rfl) (fun Q2 hQ2 => r_X5_refusalFor hX (d := (d + 1)) e25 hQ2) ?_
          cases hF
          exact go_lret hX c_25 rfl rfl hQ
      · refine go_zf hX c_25 rfl (by decide) hc9 ?_
        refine go_adv hX c_25 2 (F2 := (38, [.int x3, .int (ki 3)], [(0, .ref x0), (1, .int x1), (2, .int x2), (3, .int x3)], h)) rfl ?_
        obtain ⟨v26, e27, hF⟩ := mm_bind hF
        refine go_cS hX (As := [.int (ki 3), .int x3]) (rv := some (.long v26)) (h2 := h) c_25 rfl (by decide) (Nat.le_of_ble_eq_true rfl) rfl rfl (Nat.le_of_ble_eq_true rfl) (fun Q2 hQ2 => r_X5_refusalFor hX (d := (d + 1)) e27 hQ2) ?_
        cases hF
        exact go_lret hX c_25 rfl rfl hQ
    · refine go_zf hX c_25 rfl (by decide) hc6 ?_
      refine go_adv hX c_25 2 (F2 := (22, [.int x2, .int (ki 2)], [(0, .ref x0), (1, .int x1), (2, .int x2), (3, .int x3)], h)) rfl ?_
      obtain ⟨v28, e29, hF⟩ := mm_bind hF
      refine go_cS hX (As := [.int (ki 2), .int x2]) (rv := some (.long v28)) (h2 := h) c_25 rfl (by decide) (Nat.le_of_ble_eq_true rfl) rfl rfl (Nat.le_of_ble_eq_true rfl) (fun Q2 hQ2 => r_X5_refusalFor hX (d := (d + 1)) e29 hQ2) ?_
      cases hF
      exact go_lret hX c_25 rfl rfl hQ
  · refine go_zf hX c_25 rfl (by decide) hc3 ?_
    refine go_adv hX c_25 2 (F2 := (9, [.int x1, .int (ki 2)], [(0, .ref x0), (1, .int x1), (2, .int x2), (3, .int x3)], h)) rfl ?_
    obtain ⟨v30, e31, hF⟩ := mm_bind hF
    refine go_cS hX (As := [.int (ki 2), .int x1]) (rv := some (.long v30)) (h2 := h) c_25 rfl (by decide) (Nat.le_of_ble_eq_true rfl) rfl rfl (Nat.le_of_ble_eq_true rfl) (fun Q2 hQ2 => r_X5_refusalFor hX (d := (d + 1)) e31 hQ2) ?_
    cases hF
    exact go_lret hX c_25 rfl rfl hQ
theorem c_24 : mm_cd 24 = k_X3_isStair := rfl
def F_X3_isStair (h : mm_S) (x0 : Nat) (x1 : Int32) : Option Int32 :=
  (fx_gI h x0 3 3).bind fun v1 =>
  (F_X5_isInRange h x1 (ki 0) (v1 - (ki 1))).bind fun v3 =>
  (fx_nar .boolean v3).bind fun v5 =>
  some v5
theorem r_X3_isStair {X : mm_Cl} (hX : mm_mono X) {d c k : Nat} {Q : mm_Re → Prop} {h : mm_S} {x0 : Nat} {x1 : Int32} {o : Int32} (hF : F_X3_isStair h x0 x1 = some o) (hQ : Q (.inl (some (.int o)), h)) : mm_Run X (d + 2) 24 c k [.ref x0, .int x1] h Q := by
  unfold F_X3_isStair at hF
  refine mm_Run_in (by decide) (by decide) (Nat.le_of_ble_eq_true rfl) ?_
  show mm_Ex (mm_Run X (d + 1)) 24 Q (0, [], [(0, .ref x0), (1, .int x1)], h) c k
  refine go_adv hX c_24 3 (F2 := (3, [.ref x0, .int (ki 0), .int x1], [(0, .ref x0), (1, .int x1)], h)) rfl ?_
  obtain ⟨v1, e2, hF⟩ := mm_bind hF
  refine go_gI hX c_24 rfl e2 ?_
  refine go_adv hX c_24 2 (F2 := (8, [.int (v1 - (ki 1)), .int (ki 0), .int x1], [(0, .ref x0), (1, .int x1)], h)) rfl ?_
  obtain ⟨v3, e4, hF⟩ := mm_bind hF
  refine go_cS hX (As := [.int x1, .int (ki 0), .int (v1 - (ki 1))]) (rv := some (.int v3)) (h2 := h) c_24 rfl (by decide) (Nat.le_of_ble_eq_true rfl) rfl rfl (Nat.le_of_ble_eq_true rfl) (fun Q2 hQ2 => r_X5_isInRange hX (d := d) e4 hQ2) ?_
  obtain ⟨v5, e6, hF⟩ := mm_bind hF
  obtain ⟨rfl, e6n⟩ := fx_nar_s e6
  cases hF
  exact go_iret hX c_24 rfl rfl e6n hQ
theorem c_27 : mm_cd 27 = k_X3_whyNotTear := rfl
def F_X3_whyNotTear (h : mm_S) (x0 : Nat) (x1 : Int32) : Option Int64 :=
  (fx_is h x0 3).bind fun _ =>
  (F_X3_isStair h x0 x1).bind fun v2 =>
  if v2 = 0 then
    (F_X5_refusalFor h (ki 2) x1).bind fun v5 =>
    some v5
  else
    some (kl 0)
theorem r_X3_whyNotTear {X : mm_Cl} (hX : mm_mono X) {d c k : Nat} {Q : mm_Re → Prop} {h : mm_S} {x0 : Nat} {x1 : Int32} {o : Int64} (hF : F_X3_whyNotTear h x0 x1 = some o) (hQ : Q (.inl (some (.long o)), h)) : mm_Run X (d + 3) 27 c k [.ref x0, .int x1] h Q := by
  unfold F_X3_whyNotTear at hF
  refine mm_Run_in (by decide) (by decide) (Nat.le_of_ble_eq_true rfl) ?_
  show mm_Ex (mm_Run X (d + 2)) 27 Q (0, [], [(0, .ref x0), (1, .int x1)], h) c k
  refine go_adv hX c_27 2 (F2 := (2, [.int x1, .ref x0], [(0, .ref x0), (1, .int x1)], h)) rfl ?_
  obtain ⟨_, e1, hF⟩ := mm_bind hF
  obtain ⟨v2, e3, hF⟩ := mm_bind hF
  refine go_cV hX (As := [.int x1]) (rv := some (.int v2)) (h2 := h) (ci := 3) c_27 rfl (Nat.le_of_ble_eq_true rfl) rfl rfl e1 (by decide) (Nat.le_of_ble_eq_true rfl) (fun Q2 hQ2 => r_X3_isStair hX (d := d) e3 hQ2) ?_
  rcases mm_ite hF with ⟨hc4, hF⟩ | ⟨hc4, hF⟩
  · refine go_zt hX 12 c_27 rfl rfl hc4 ?_
    refine go_adv hX c_27 2 (F2 := (14, [.int x1, .int (ki 2)], [(0, .ref x0), (1, .int x1)], h)) rfl ?_
    obtain ⟨v5, e6, hF⟩ := mm_bind hF
    refine go_cS hX (As := [.int (ki 2), .int x1]) (rv := some (.long v5)) (h2 := h) c_27 rfl (by decide) (Nat.le_of_ble_eq_true rfl) rfl rfl (Nat.le_of_ble_eq_true rfl) (fun Q2 hQ2 => r_X5_refusalFor hX (d := (d + 1)) e6 hQ2) ?_
    cases hF
    exact go_lret hX c_27 rfl rfl hQ
  · refine go_zf hX c_27 rfl (by decide) hc4 ?_
    refine go_adv hX c_27 1 (F2 := (9, [.long (kl 0)], [(0, .ref x0), (1, .int x1)], h)) rfl ?_
    refine go_to hX 17 c_27 rfl rfl ?_
    cases hF
    exact go_lret hX c_27 rfl rfl hQ
theorem c_29 : mm_cd 29 = k_X3_whyNotHalve := rfl
def F_X3_whyNotHalve (h : mm_S) (x0 : Nat) (x1 : Int32) : Option Int64 :=
  (fx_is h x0 3).bind fun _ =>
  (F_X3_isStair h x0 x1).bind fun v2 =>
  if v2 ≠ 0 then
    (fx_gR h x0 3 2).bind fun v5 =>
    (fx_aR h v5 x1).bind fun v7 =>
    (fx_gI h v7 2 4).bind fun v9 =>
    if (ki 3) ≤ v9 then
      (fx_gI h v7 2 2).bind fun v12 =>
      (F_X5_refusalFor h (kb 6) v12).bind fun v14 =>
      some v14
    else
      (fx_gI h v7 2 2).bind fun v16 =>
      if v16 ≠ (ki 1) then
        some (kl 0)
      else
        (fx_gI h v7 2 2).bind fun v19 =>
        (F_X5_refusalFor h (kb 6) v19).bind fun v21 =>
        some v21
  else
    (F_X5_refusalFor h (ki 2) x1).bind fun v23 =>
    some v23
theorem r_X3_whyNotHalve {X : mm_Cl} (hX : mm_mono X) {d c k : Nat} {Q : mm_Re → Prop} {h : mm_S} {x0 : Nat} {x1 : Int32} {o : Int64} (hF : F_X3_whyNotHalve h x0 x1 = some o) (hQ : Q (.inl (some (.long o)), h)) : mm_Run X (d + 3) 29 c k [.ref x0, .int x1] h Q := by
  unfold F_X3_whyNotHalve at hF
  refine mm_Run_in (by decide) (by decide) (Nat.le_of_ble_eq_true rfl) ?_
  show mm_Ex (mm_Run X (d + 2)) 29 Q (0, [], [(0, .ref x0), (1, .int x1)], h) c k
  refine go_adv hX c_29 2 (F2 := (2, [.int x1, .ref x0], [(0, .ref x0), (1, .int x1)], h)) rfl ?_
  obtain ⟨_, e1, hF⟩ := mm_bind hF
  obtain ⟨v2, e3, hF⟩ := mm_bind hF
  refine go_cV hX (As := [.int x1]) (rv := some (.int v2)) (h2 := h) (ci := 3) c_29 rfl (Nat.le_of_ble_eq_true rfl) rfl rfl e1 (by decide) (Nat.le_of_ble_eq_true rfl) (fun Q2 hQ2 => r_X3_isStair hX (d := d) e3 hQ2) ?_
  rcases mm_ite hF with ⟨hc4, hF⟩ | ⟨hc4, hF⟩
  · refine go_zt hX 14 c_29 rfl rfl hc4 ?_
    refine go_adv hX c_29 1 (F2 := (15, [.ref x0], [(0, .ref x0), (1, .int x1)], h)) rfl ?_
    obtain ⟨v5, e6, hF⟩ := mm_bind hF
    refine go_gR hX c_29 rfl e6 ?_
    refine go_adv hX c_29 1 (F2 := (19, [.int x1, .ref v5], [(0, .ref x0), (1, .int x1)], h)) rfl ?_
    obtain ⟨v7, e8, hF⟩ := mm_bind hF
    refine go_aR hX c_29 rfl e8 ?_
    refine go_adv hX c_29 2 (F2 := (22, [.ref v7], [(2, .ref v7), (0, .ref x0), (1, .int x1)], h)) rfl ?_
    obtain ⟨v9, e10, hF⟩ := mm_bind hF
    refine go_gI hX c_29 rfl e10 ?_
    refine go_adv hX c_29 1 (F2 := (26, [.int (ki 3), .int v9], [(2, .ref v7), (0, .ref x0), (1, .int x1)], h)) rfl ?_
    rcases mm_ite hF with ⟨hc11, hF⟩ | ⟨hc11, hF⟩
    · refine go_ct hX 37 c_29 rfl rfl hc11 ?_
      refine go_adv hX c_29 2 (F2 := (40, [.ref v7, .int (kb 6)], [(2, .ref v7), (0, .ref x0), (1, .int x1)], h)) rfl ?_
      obtain ⟨v12, e13, hF⟩ := mm_bind hF
      refine go_gI hX c_29 rfl e13 ?_
      obtain ⟨v14, e15, hF⟩ := mm_bind hF
      refine go_cS hX (As := [.int (kb 6), .int v12]) (rv := some (.long v14)) (h2 := h) c_29 rfl (by decide) (Nat.le_of_ble_eq_true rfl) rfl rfl (Nat.le_of_ble_eq_true rfl) (fun Q2 hQ2 => r_X5_refusalFor hX (d := (d + 1)) e15 hQ2) ?_
      cases hF
      exact go_lret hX c_29 rfl rfl hQ
    · refine go_cf hX c_29 rfl (by decide) hc11 ?_
      refine go_adv hX c_29 1 (F2 := (30, [.ref v7], [(2, .ref v7), (0, .ref x0), (1, .int x1)], h)) rfl ?_
      obtain ⟨v16, e17, hF⟩ := mm_bind hF
      refine go_gI hX c_29 rfl e17 ?_
      refine go_adv hX c_29 1 (F2 := (34, [.int (ki 1), .int v16], [(2, .ref v7), (0, .ref x0), (1, .int x1)], h)) rfl ?_
      rcases mm_ite hF with ⟨hc18, hF⟩ | ⟨hc18, hF⟩
      · refine go_ct hX 47 c_29 rfl rfl hc18 ?_
        refine go_adv hX c_29 1 (F2 := (48, [.long (kl 0)], [(2, .ref v7), (0, .ref x0), (1, .int x1)], h)) rfl ?_
        cases hF
        exact go_lret hX c_29 rfl rfl hQ
      · refine go_cf hX c_29 rfl (by decide) hc18 ?_
        refine go_adv hX c_29 2 (F2 := (40, [.ref v7, .int (kb 6)], [(2, .ref v7), (0, .ref x0), (1, .int x1)], h)) rfl ?_
        obtain ⟨v19, e20, hF⟩ := mm_bind hF
        refine go_gI hX c_29 rfl e20 ?_
        obtain ⟨v21, e22, hF⟩ := mm_bind hF
        refine go_cS hX (As := [.int (kb 6), .int v19]) (rv := some (.long v21)) (h2 := h) c_29 rfl (by decide) (Nat.le_of_ble_eq_true rfl) rfl rfl (Nat.le_of_ble_eq_true rfl) (fun Q2 hQ2 => r_X5_refusalFor hX (d := (d + 1)) e22 hQ2) ?_
        cases hF
        exact go_lret hX c_29 rfl rfl hQ
  · refine go_zf hX c_29 rfl (by decide) hc4 ?_
    refine go_adv hX c_29 2 (F2 := (10, [.int x1, .int (ki 2)], [(0, .ref x0), (1, .int x1)], h)) rfl ?_
    obtain ⟨v23, e24, hF⟩ := mm_bind hF
    refine go_cS hX (As := [.int (ki 2), .int x1]) (rv := some (.long v23)) (h2 := h) c_29 rfl (by decide) (Nat.le_of_ble_eq_true rfl) rfl rfl (Nat.le_of_ble_eq_true rfl) (fun Q2 hQ2 => r_X5_refusalFor hX (d := (d + 1)) e24 hQ2) ?_
    cases hF
    exact go_lret hX c_29 rfl rfl hQ
theorem c_118 : mm_cd 118 = k_X5_isGiant := rfl
def F_X5_isGiant (h : mm_S) (x0 : Int32) : Option Int32 :=
  (F_X5_isInRange h x0 (ki 0) (ki 1)).bind fun v1 =>
  (fx_nar .boolean v1).bind fun v3 =>
  some v3
theorem r_X5_isGiant {X : mm_Cl} (hX : mm_mono X) {d c k : Nat} {Q : mm_Re → Prop} {h : mm_S} {x0 : Int32} {o : Int32} (hF : F_X5_isGiant h x0 = some o) (hQ : Q (.inl (some (.int o)), h)) : mm_Run X (d + 2) 118 c k [.int x0] h Q := by
  unfold F_X5_isGiant at hF
  refine mm_Run_in (by decide) (by decide) (Nat.le_of_ble_eq_true rfl) ?_
  show mm_Ex (mm_Run X (d + 1)) 118 Q (0, [], [(0, .int x0)], h) c k
  refine go_adv hX c_118 3 (F2 := (3, [.int (ki 1), .int (ki 0), .int x0], [(0, .int x0)], h)) rfl ?_
  obtain ⟨v1, e2, hF⟩ := mm_bind hF
  refine go_cS hX (As := [.int x0, .int (ki 0), .int (ki 1)]) (rv := some (.int v1)) (h2 := h) c_118 rfl (by decide) (Nat.le_of_ble_eq_true rfl) rfl rfl (Nat.le_of_ble_eq_true rfl) (fun Q2 hQ2 => r_X5_isInRange hX (d := d) e2 hQ2) ?_
  obtain ⟨v3, e4, hF⟩ := mm_bind hF
  obtain ⟨rfl, e4n⟩ := fx_nar_s e4
  cases hF
  exact go_iret hX c_118 rfl rfl e4n hQ
theorem c_31 : mm_cd 31 = k_X3_whyNoGiantOrStair := rfl
def F_X3_whyNoGiantOrStair (h : mm_S) (x0 : Nat) (x1 : Int32) (x2 : Int32) : Option Int64 :=
  (F_X5_isGiant h x1).bind fun v1 =>
  if v1 ≠ 0 then
    (fx_is h x0 3).bind fun _ =>
    (F_X3_isStair h x0 x2).bind fun v5 =>
    if v5 = 0 then
      (F_X5_refusalFor h (ki 2) x2).bind fun v8 =>
      some v8
    else
      some (kl 0)
  else
    (F_X5_refusalFor h (ki 2) x1).bind fun v10 =>
    some v10
theorem r_X3_whyNoGiantOrStair {X : mm_Cl} (hX : mm_mono X) {d c k : Nat} {Q : mm_Re → Prop} {h : mm_S} {x0 : Nat} {x1 : Int32} {x2 : Int32} {o : Int64} (hF : F_X3_whyNoGiantOrStair h x0 x1 x2 = some o) (hQ : Q (.inl (some (.long o)), h)) : mm_Run X (d + 3) 31 c k [.ref x0, .int x1, .int x2] h Q := by
  unfold F_X3_whyNoGiantOrStair at hF
  refine mm_Run_in (by decide) (by decide) (Nat.le_of_ble_eq_true rfl) ?_
  show mm_Ex (mm_Run X (d + 2)) 31 Q (0, [], [(0, .ref x0), (1, .int x1), (2, .int x2)], h) c k
  refine go_adv hX c_31 1 (F2 := (1, [.int x1], [(0, .ref x0), (1, .int x1), (2, .int x2)], h)) rfl ?_
  obtain ⟨v1, e2, hF⟩ := mm_bind hF
  refine go_cS hX (As := [.int x1]) (rv := some (.int v1)) (h2 := h) c_31 rfl (by decide) (Nat.le_of_ble_eq_true rfl) rfl rfl (Nat.le_of_ble_eq_true rfl) (fun Q2 hQ2 => r_X5_isGiant hX (d := d) e2 hQ2) ?_
  rcases mm_ite hF with ⟨hc3, hF⟩ | ⟨hc3, hF⟩
  · refine go_zt hX 13 c_31 rfl rfl hc3 ?_
    refine go_adv hX c_31 2 (F2 := (15, [.int x2, .ref x0], [(0, .ref x0), (1, .int x1), (2, .int x2)], h)) rfl ?_
    obtain ⟨_, e4, hF⟩ := mm_bind hF
    obtain ⟨v5, e6, hF⟩ := mm_bind hF
    refine go_cV hX (As := [.int x2]) (rv := some (.int v5)) (h2 := h) (ci := 3) c_31 rfl (Nat.le_of_ble_eq_true rfl) rfl rfl e4 (by decide) (Nat.le_of_ble_eq_true rfl) (fun Q2 hQ2 => r_X3_isStair hX (d := d) e6 hQ2) ?_
    rcases mm_ite hF with ⟨hc7, hF⟩ | ⟨hc7, hF⟩
    · refine go_zt hX 25 c_31 rfl rfl hc7 ?_
      refine go_adv hX c_31 2 (F2 := (27, [.int x2, .int (ki 2)], [(0, .ref x0), (1, .int x1), (2, .int x2)], h)) rfl ?_
      obtain ⟨v8, e9, hF⟩ := mm_bind hF
      refine go_cS hX (As := [.int (ki 2), .int x2]) (rv := some (.long v8)) (h2 := h) c_31 rfl (by decide) (Nat.le_of_ble_eq_true rfl) rfl rfl (Nat.le_of_ble_eq_true rfl) (fun Q2 hQ2 => r_X5_refusalFor hX (d := (d + 1)) e9 hQ2) ?_
      cases hF
      exact go_lret hX c_31 rfl rfl hQ
    · refine go_zf hX c_31 rfl (by decide) hc7 ?_
      refine go_adv hX c_31 1 (F2 := (22, [.long (kl 0)], [(0, .ref x0), (1, .int x1), (2, .int x2)], h)) rfl ?_
      refine go_to hX 30 c_31 rfl rfl ?_
      cases hF
      exact go_lret hX c_31 rfl rfl hQ
  · refine go_zf hX c_31 rfl (by decide) hc3 ?_
    refine go_adv hX c_31 2 (F2 := (9, [.int x1, .int (ki 2)], [(0, .ref x0), (1, .int x1), (2, .int x2)], h)) rfl ?_
    obtain ⟨v10, e11, hF⟩ := mm_bind hF
    refine go_cS hX (As := [.int (ki 2), .int x1]) (rv := some (.long v10)) (h2 := h) c_31 rfl (by decide) (Nat.le_of_ble_eq_true rfl) rfl rfl (Nat.le_of_ble_eq_true rfl) (fun Q2 hQ2 => r_X5_refusalFor hX (d := (d + 1)) e11 hQ2) ?_
    cases hF
    exact go_lret hX c_31 rfl rfl hQ
theorem c_15 : mm_cd 15 = k_X2_isLeased := rfl
def F_X2_isLeased (h : mm_S) (x0 : Nat) : Option Int32 :=
  (fx_gI h x0 2 5).bind fun v1 =>
  (F_X5_isGiant h v1).bind fun v3 =>
  (fx_nar .boolean v3).bind fun v5 =>
  some v5
theorem r_X2_isLeased {X : mm_Cl} (hX : mm_mono X) {d c k : Nat} {Q : mm_Re → Prop} {h : mm_S} {x0 : Nat} {o : Int32} (hF : F_X2_isLeased h x0 = some o) (hQ : Q (.inl (some (.int o)), h)) : mm_Run X (d + 3) 15 c k [.ref x0] h Q := by
  unfold F_X2_isLeased at hF
  refine mm_Run_in (by decide) (by decide) (Nat.le_of_ble_eq_true rfl) ?_
  show mm_Ex (mm_Run X (d + 2)) 15 Q (0, [], [(0, .ref x0)], h) c k
  refine go_adv hX c_15 1 (F2 := (1, [.ref x0], [(0, .ref x0)], h)) rfl ?_
  obtain ⟨v1, e2, hF⟩ := mm_bind hF
  refine go_gI hX c_15 rfl e2 ?_
  obtain ⟨v3, e4, hF⟩ := mm_bind hF
  refine go_cS hX (As := [.int v1]) (rv := some (.int v3)) (h2 := h) c_15 rfl (by decide) (Nat.le_of_ble_eq_true rfl) rfl rfl (Nat.le_of_ble_eq_true rfl) (fun Q2 hQ2 => r_X5_isGiant hX (d := d) e4 hQ2) ?_
  obtain ⟨v5, e6, hF⟩ := mm_bind hF
  obtain ⟨rfl, e6n⟩ := fx_nar_s e6
  cases hF
  exact go_iret hX c_15 rfl rfl e6n hQ
theorem c_32 : mm_cd 32 = k_X3_whyNotLease := rfl
def F_X3_whyNotLease (h : mm_S) (x0 : Nat) (x1 : Int32) (x2 : Int32) (x3 : Int32) : Option Int64 :=
  (fx_is h x0 3).bind fun _ =>
  (F_X3_whyNoGiantOrStair h x0 x1 x2).bind fun v2 =>
  if (lg_cmp v2 (kl 0)) = 0 then
    (F_X5_isInRange h x3 (ki 1) (kb 9)).bind fun v5 =>
    if v5 ≠ 0 then
      (fx_gR h x0 3 2).bind fun v8 =>
      (fx_aR h v8 x2).bind fun v10 =>
      (fx_is h v10 2).bind fun _ =>
      (F_X2_isLeased h v10).bind fun v13 =>
      if v13 = 0 then
        some (kl 0)
      else
        (fx_gR h x0 3 2).bind fun v16 =>
        (fx_aR h v16 x2).bind fun v18 =>
        (fx_gI h v18 2 6).bind fun v20 =>
        (F_X5_refusalFor h (kb 7) v20).bind fun v22 =>
        some v22
    else
      (F_X5_refusalFor h (ki 3) x3).bind fun v24 =>
      some v24
  else
    some v2
theorem r_X3_whyNotLease {X : mm_Cl} (hX : mm_mono X) {d c k : Nat} {Q : mm_Re → Prop} {h : mm_S} {x0 : Nat} {x1 : Int32} {x2 : Int32} {x3 : Int32} {o : Int64} (hF : F_X3_whyNotLease h x0 x1 x2 x3 = some o) (hQ : Q (.inl (some (.long o)), h)) : mm_Run X (d + 4) 32 c k [.ref x0, .int x1, .int x2, .int x3] h Q := by
  unfold F_X3_whyNotLease at hF
  refine mm_Run_in (by decide) (by decide) (Nat.le_of_ble_eq_true rfl) ?_
  show mm_Ex (mm_Run X (d + 3)) 32 Q (0, [], [(0, .ref x0), (1, .int x1), (2, .int x2), (3, .int x3)], h) c k
  refine go_adv hX c_32 3 (F2 := (3, [.int x2, .int x1, .ref x0], [(0, .ref x0), (1, .int x1), (2, .int x2), (3, .int x3)], h)) rfl ?_
  obtain ⟨_, e1, hF⟩ := mm_bind hF
  obtain ⟨v2, e3, hF⟩ := mm_bind hF
  refine go_cV hX (As := [.int x1, .int x2]) (rv := some (.long v2)) (h2 := h) (ci := 3) c_32 rfl (Nat.le_of_ble_eq_true rfl) rfl rfl e1 (by decide) (Nat.le_of_ble_eq_true rfl) (fun Q2 hQ2 => r_X3_whyNoGiantOrStair hX (d := d) e3 hQ2) ?_
  refine go_adv hX c_32 4 (F2 := (12, [.int (lg_cmp v2 (kl 0))], [(4, .long v2), (0, .ref x0), (1, .int x1), (2, .int x2), (3, .int x3)], h)) rfl ?_
  rcases mm_ite hF with ⟨hc4, hF⟩ | ⟨hc4, hF⟩
  · refine go_zt hX 18 c_32 rfl rfl hc4 ?_
    refine go_adv hX c_32 3 (F2 := (22, [.int (kb 9), .int (ki 1), .int x3], [(4, .long v2), (0, .ref x0), (1, .int x1), (2, .int x2), (3, .int x3)], h)) rfl ?_
    obtain ⟨v5, e6, hF⟩ := mm_bind hF
    refine go_cS hX (As := [.int x3, .int (ki 1), .int (kb 9)]) (rv := some (.int v5)) (h2 := h) c_32 rfl (by decide) (Nat.le_of_ble_eq_true rfl) rfl rfl (Nat.le_of_ble_eq_true rfl) (fun Q2 hQ2 => r_X5_isInRange hX (d := (d + 2)) e6 hQ2) ?_
    rcases mm_ite hF with ⟨hc7, hF⟩ | ⟨hc7, hF⟩
    · refine go_zt hX 34 c_32 rfl rfl hc7 ?_
      refine go_adv hX c_32 1 (F2 := (35, [.ref x0], [(4, .long v2), (0, .ref x0), (1, .int x1), (2, .int x2), (3, .int x3)], h)) rfl ?_
      obtain ⟨v8, e9, hF⟩ := mm_bind hF
      refine go_gR hX c_32 rfl e9 ?_
      refine go_adv hX c_32 1 (F2 := (39, [.int x2, .ref v8], [(4, .long v2), (0, .ref x0), (1, .int x1), (2, .int x2), (3, .int x3)], h)) rfl ?_
      obtain ⟨v10, e11, hF⟩ := mm_bind hF
      refine go_aR hX c_32 rfl e11 ?_
      obtain ⟨_, e12, hF⟩ := mm_bind hF
      obtain ⟨v13, e14, hF⟩ := mm_bind hF
      refine go_cV hX (As := []) (rv := some (.int v13)) (h2 := h) (ci := 2) c_32 rfl (Nat.le_of_ble_eq_true rfl) rfl rfl e12 (by decide) (Nat.le_of_ble_eq_true rfl) (fun Q2 hQ2 => r_X2_isLeased hX (d := d) e14 hQ2) ?_
      rcases mm_ite hF with ⟨hc15, hF⟩ | ⟨hc15, hF⟩
      · refine go_zt hX 61 c_32 rfl rfl hc15 ?_
        refine go_adv hX c_32 1 (F2 := (62, [.long (kl 0)], [(4, .long v2), (0, .ref x0), (1, .int x1), (2, .int x2), (3, .int x3)], h)) rfl ?_
        cases hF
        exact go_lret hX c_32 rfl rfl hQ
      · refine go_zf hX c_32 rfl (by decide) hc15 ?_
        refine go_adv hX c_32 2 (F2 := (49, [.ref x0, .int (kb 7)], [(4, .long v2), (0, .ref x0), (1, .int x1), (2, .int x2), (3, .int x3)], h)) rfl ?_
        obtain ⟨v16, e17, hF⟩ := mm_bind hF
        refine go_gR hX c_32 rfl e17 ?_
        refine go_adv hX c_32 1 (F2 := (53, [.int x2, .ref v16, .int (kb 7)], [(4, .long v2), (0, .ref x0), (1, .int x1), (2, .int x2), (3, .int x3)], h)) rfl ?_
        obtain ⟨v18, e19, hF⟩ := mm_bind hF
        refine go_aR hX c_32 rfl e19 ?_
        obtain ⟨v20, e21, hF⟩ := mm_bind hF
        refine go_gI hX c_32 rfl e21 ?_
        obtain ⟨v22, e23, hF⟩ := mm_bind hF
        refine go_cS hX (As := [.int (kb 7), .int v20]) (rv := some (.long v22)) (h2 := h) c_32 rfl (by decide) (Nat.le_of_ble_eq_true rfl) rfl rfl (Nat.le_of_ble_eq_true rfl) (fun Q2 hQ2 => r_X5_refusalFor hX (d := (d + 2)) e23 hQ2) ?_
        cases hF
        exact go_lret hX c_32 rfl rfl hQ
    · refine go_zf hX c_32 rfl (by decide) hc7 ?_
      refine go_adv hX c_32 2 (F2 := (30, [.int x3, .int (ki 3)], [(4, .long v2), (0, .ref x0), (1, .int x1), (2, .int x2), (3, .int x3)], h)) rfl ?_
      obtain ⟨v24, e25, hF⟩ := mm_bind hF
      refine go_cS hX (As := [.int (ki 3), .int x3]) (rv := some (.long v24)) (h2 := h) c_32 rfl (by decide) (Nat.le_of_ble_eq_true rfl) rfl rfl (Nat.le_of_ble_eq_true rfl) (fun Q2 hQ2 => r_X5_refusalFor hX (d := (d + 2)) e25 hQ2) ?_
      cases hF
      exact go_lret hX c_32 rfl rfl hQ
  · refine go_zf hX c_32 rfl (by decide) hc4 ?_
    refine go_adv hX c_32 1 (F2 := (17, [.long v2], [(4, .long v2), (0, .ref x0), (1, .int x1), (2, .int x2), (3, .int x3)], h)) rfl ?_
    cases hF
    exact go_lret hX c_32 rfl rfl hQ
theorem c_17 : mm_cd 17 = k_X2_otherEnd := rfl
def F_X2_otherEnd (h : mm_S) (x0 : Nat) (x1 : Int32) : Option Int32 :=
  (fx_gI h x0 2 0).bind fun v1 =>
  if v1 ≠ x1 then
    (fx_gI h x0 2 0).bind fun v4 =>
    some v4
  else
    (fx_gI h x0 2 1).bind fun v6 =>
    some v6
theorem r_X2_otherEnd {X : mm_Cl} (hX : mm_mono X) {d c k : Nat} {Q : mm_Re → Prop} {h : mm_S} {x0 : Nat} {x1 : Int32} {o : Int32} (hF : F_X2_otherEnd h x0 x1 = some o) (hQ : Q (.inl (some (.int o)), h)) : mm_Run X (d + 1) 17 c k [.ref x0, .int x1] h Q := by
  unfold F_X2_otherEnd at hF
  refine mm_Run_in (by decide) (by decide) (Nat.le_of_ble_eq_true rfl) ?_
  show mm_Ex (mm_Run X d) 17 Q (0, [], [(0, .ref x0), (1, .int x1)], h) c k
  refine go_adv hX c_17 1 (F2 := (1, [.ref x0], [(0, .ref x0), (1, .int x1)], h)) rfl ?_
  obtain ⟨v1, e2, hF⟩ := mm_bind hF
  refine go_gI hX c_17 rfl e2 ?_
  refine go_adv hX c_17 1 (F2 := (5, [.int x1, .int v1], [(0, .ref x0), (1, .int x1)], h)) rfl ?_
  rcases mm_ite hF with ⟨hc3, hF⟩ | ⟨hc3, hF⟩
  · refine go_ct hX 15 c_17 rfl rfl hc3 ?_
    refine go_adv hX c_17 1 (F2 := (16, [.ref x0], [(0, .ref x0), (1, .int x1)], h)) rfl ?_
    obtain ⟨v4, e5, hF⟩ := mm_bind hF
    refine go_gI hX c_17 rfl e5 ?_
    cases hF
    exact go_iret hX c_17 rfl rfl rfl hQ
  · refine go_cf hX c_17 rfl (by decide) hc3 ?_
    refine go_adv hX c_17 1 (F2 := (9, [.ref x0], [(0, .ref x0), (1, .int x1)], h)) rfl ?_
    obtain ⟨v6, e7, hF⟩ := mm_bind hF
    refine go_gI hX c_17 rfl e7 ?_
    refine go_to hX 19 c_17 rfl rfl ?_
    cases hF
    exact go_iret hX c_17 rfl rfl rfl hQ
theorem c_34 : mm_cd 34 = k_X3_whyNotClimb := rfl
def F_X3_whyNotClimb (h : mm_S) (x0 : Nat) (x1 : Int32) (x2 : Int32) : Option Int64 :=
  (fx_is h x0 3).bind fun _ =>
  (F_X3_whyNoGiantOrStair h x0 x1 x2).bind fun v2 =>
  if (lg_cmp v2 (kl 0)) = 0 then
    (fx_gR h x0 3 0).bind fun v5 =>
    (fx_aR h v5 x1).bind fun v7 =>
    (fx_gI h v7 0 1).bind fun v9 =>
    (fx_gR h x0 3 2).bind fun v11 =>
    (fx_aR h v11 x2).bind fun v13 =>
    (fx_is h v13 2).bind fun _ =>
    (F_X2_isEnd h v13 v9).bind fun v16 =>
    if v16 ≠ 0 then
      (fx_gR h x0 3 2).bind fun v19 =>
      (fx_aR h v19 x2).bind fun v21 =>
      (fx_is h v21 2).bind fun _ =>
      (F_X2_otherEnd h v21 v9).bind fun v24 =>
      (fx_gR h x0 3 1).bind fun v26 =>
      (fx_aI h v26 v24).bind fun v28 =>
      if v28 ≠ (ki 2) then
        some (kl 0)
      else
        (F_X5_refusalFor h (kb 9) v24).bind fun v31 =>
        some v31
    else
      (F_X5_refusalFor h (kb 8) v9).bind fun v33 =>
      some v33
  else
    some v2
theorem r_X3_whyNotClimb {X : mm_Cl} (hX : mm_mono X) {d c k : Nat} {Q : mm_Re → Prop} {h : mm_S} {x0 : Nat} {x1 : Int32} {x2 : Int32} {o : Int64} (hF : F_X3_whyNotClimb h x0 x1 x2 = some o) (hQ : Q (.inl (some (.long o)), h)) : mm_Run X (d + 4) 34 c k [.ref x0, .int x1, .int x2] h Q := by
  unfold F_X3_whyNotClimb at hF
  refine mm_Run_in (by decide) (by decide) (Nat.le_of_ble_eq_true rfl) ?_
  show mm_Ex (mm_Run X (d + 3)) 34 Q (0, [], [(0, .ref x0), (1, .int x1), (2, .int x2)], h) c k
  refine go_adv hX c_34 3 (F2 := (3, [.int x2, .int x1, .ref x0], [(0, .ref x0), (1, .int x1), (2, .int x2)], h)) rfl ?_
  obtain ⟨_, e1, hF⟩ := mm_bind hF
  obtain ⟨v2, e3, hF⟩ := mm_bind hF
  refine go_cV hX (As := [.int x1, .int x2]) (rv := some (.long v2)) (h2 := h) (ci := 3) c_34 rfl (Nat.le_of_ble_eq_true rfl) rfl rfl e1 (by decide) (Nat.le_of_ble_eq_true rfl) (fun Q2 hQ2 => r_X3_whyNoGiantOrStair hX (d := d) e3 hQ2) ?_
  refine go_adv hX c_34 4 (F2 := (10, [.int (lg_cmp v2 (kl 0))], [(3, .long v2), (0, .ref x0), (1, .int x1), (2, .int x2)], h)) rfl ?_
  rcases mm_ite hF with ⟨hc4, hF⟩ | ⟨hc4, hF⟩
  · refine go_zt hX 15 c_34 rfl rfl hc4 ?_
    refine go_adv hX c_34 1 (F2 := (16, [.ref x0], [(3, .long v2), (0, .ref x0), (1, .int x1), (2, .int x2)], h)) rfl ?_
    obtain ⟨v5, e6, hF⟩ := mm_bind hF
    refine go_gR hX c_34 rfl e6 ?_
    refine go_adv hX c_34 1 (F2 := (20, [.int x1, .ref v5], [(3, .long v2), (0, .ref x0), (1, .int x1), (2, .int x2)], h)) rfl ?_
    obtain ⟨v7, e8, hF⟩ := mm_bind hF
    refine go_aR hX c_34 rfl e8 ?_
    obtain ⟨v9, e10, hF⟩ := mm_bind hF
    refine go_gI hX c_34 rfl e10 ?_
    refine go_adv hX c_34 2 (F2 := (27, [.ref x0], [(5, .int v9), (3, .long v2), (0, .ref x0), (1, .int x1), (2, .int x2)], h)) rfl ?_
    obtain ⟨v11, e12, hF⟩ := mm_bind hF
    refine go_gR hX c_34 rfl e12 ?_
    refine go_adv hX c_34 1 (F2 := (31, [.int x2, .ref v11], [(5, .int v9), (3, .long v2), (0, .ref x0), (1, .int x1), (2, .int x2)], h)) rfl ?_
    obtain ⟨v13, e14, hF⟩ := mm_bind hF
    refine go_aR hX c_34 rfl e14 ?_
    refine go_adv hX c_34 1 (F2 := (34, [.int v9, .ref v13], [(5, .int v9), (3, .long v2), (0, .ref x0), (1, .int x1), (2, .int x2)], h)) rfl ?_
    obtain ⟨_, e15, hF⟩ := mm_bind hF
    obtain ⟨v16, e17, hF⟩ := mm_bind hF
    refine go_cV hX (As := [.int v9]) (rv := some (.int v16)) (h2 := h) (ci := 2) c_34 rfl (Nat.le_of_ble_eq_true rfl) rfl rfl e15 (by decide) (Nat.le_of_ble_eq_true rfl) (fun Q2 hQ2 => r_X2_isEnd hX (d := (d + 2)) e17 hQ2) ?_
    rcases mm_ite hF with ⟨hc18, hF⟩ | ⟨hc18, hF⟩
    · refine go_zt hX 48 c_34 rfl rfl hc18 ?_
      refine go_adv hX c_34 1 (F2 := (49, [.ref x0], [(5, .int v9), (3, .long v2), (0, .ref x0), (1, .int x1), (2, .int x2)], h)) rfl ?_
      obtain ⟨v19, e20, hF⟩ := mm_bind hF
      refine go_gR hX c_34 rfl e20 ?_
      refine go_adv hX c_34 1 (F2 := (53, [.int x2, .ref v19], [(5, .int v9), (3, .long v2), (0, .ref x0), (1, .int x1), (2, .int x2)], h)) rfl ?_
      obtain ⟨v21, e22, hF⟩ := mm_bind hF
      refine go_aR hX c_34 rfl e22 ?_
      refine go_adv hX c_34 1 (F2 := (56, [.int v9, .ref v21], [(5, .int v9), (3, .long v2), (0, .ref x0), (1, .int x1), (2, .int x2)], h)) rfl ?_
      obtain ⟨_, e23, hF⟩ := mm_bind hF
      obtain ⟨v24, e25, hF⟩ := mm_bind hF
      refine go_cV hX (As := [.int v9]) (rv := some (.int v24)) (h2 := h) (ci := 2) c_34 rfl (Nat.le_of_ble_eq_true rfl) rfl rfl e23 (by decide) (Nat.le_of_ble_eq_true rfl) (fun Q2 hQ2 => r_X2_otherEnd hX (d := (d + 2)) e25 hQ2) ?_
      refine go_adv hX c_34 2 (F2 := (62, [.ref x0], [(6, .int v24), (5, .int v9), (3, .long v2), (0, .ref x0), (1, .int x1), (2, .int x2)], h)) rfl ?_
      obtain ⟨v26, e27, hF⟩ := mm_bind hF
      refine go_gR hX c_34 rfl e27 ?_
      refine go_adv hX c_34 1 (F2 := (67, [.int v24, .ref v26], [(6, .int v24), (5, .int v9), (3, .long v2), (0, .ref x0), (1, .int x1), (2, .int x2)], h)) rfl ?_
      obtain ⟨v28, e29, hF⟩ := mm_bind hF
      refine go_aI hX c_34 rfl e29 ?_
      refine go_adv hX c_34 1 (F2 := (69, [.int (ki 2), .int v28], [(6, .int v24), (5, .int v9), (3, .long v2), (0, .ref x0), (1, .int x1), (2, .int x2)], h)) rfl ?_
      rcases mm_ite hF with ⟨hc30, hF⟩ | ⟨hc30, hF⟩
      · refine go_ct hX 80 c_34 rfl rfl hc30 ?_
        refine go_adv hX c_34 1 (F2 := (81, [.long (kl 0)], [(6, .int v24), (5, .int v9), (3, .long v2), (0, .ref x0), (1, .int x1), (2, .int x2)], h)) rfl ?_
        cases hF
        exact go_lret hX c_34 rfl rfl hQ
      · refine go_cf hX c_34 rfl (by decide) hc30 ?_
        refine go_adv hX c_34 2 (F2 := (76, [.int v24, .int (kb 9)], [(6, .int v24), (5, .int v9), (3, .long v2), (0, .ref x0), (1, .int x1), (2, .int x2)], h)) rfl ?_
        obtain ⟨v31, e32, hF⟩ := mm_bind hF
        refine go_cS hX (As := [.int (kb 9), .int v24]) (rv := some (.long v31)) (h2 := h) c_34 rfl (by decide) (Nat.le_of_ble_eq_true rfl) rfl rfl (Nat.le_of_ble_eq_true rfl) (fun Q2 hQ2 => r_X5_refusalFor hX (d := (d + 2)) e32 hQ2) ?_
        cases hF
        exact go_lret hX c_34 rfl rfl hQ
    · refine go_zf hX c_34 rfl (by decide) hc18 ?_
      refine go_adv hX c_34 2 (F2 := (44, [.int v9, .int (kb 8)], [(5, .int v9), (3, .long v2), (0, .ref x0), (1, .int x1), (2, .int x2)], h)) rfl ?_
      obtain ⟨v33, e34, hF⟩ := mm_bind hF
      refine go_cS hX (As := [.int (kb 8), .int v9]) (rv := some (.long v33)) (h2 := h) c_34 rfl (by decide) (Nat.le_of_ble_eq_true rfl) rfl rfl (Nat.le_of_ble_eq_true rfl) (fun Q2 hQ2 => r_X5_refusalFor hX (d := (d + 2)) e34 hQ2) ?_
      cases hF
      exact go_lret hX c_34 rfl rfl hQ
  · refine go_zf hX c_34 rfl (by decide) hc4 ?_
    refine go_adv hX c_34 1 (F2 := (14, [.long v2], [(3, .long v2), (0, .ref x0), (1, .int x1), (2, .int x2)], h)) rfl ?_
    cases hF
    exact go_lret hX c_34 rfl rfl hQ
theorem c_36 : mm_cd 36 = k_X3_whyNotLevy := rfl
def F_X3_whyNotLevy (h : mm_S) (x0 : Nat) (x1 : Int32) (x2 : Int32) : Option Int64 :=
  (fx_is h x0 3).bind fun _ =>
  (F_X3_whyNoGiantOrStair h x0 x1 x2).bind fun v2 =>
  if (lg_cmp v2 (kl 0)) = 0 then
    (fx_gR h x0 3 2).bind fun v5 =>
    (fx_aR h v5 x2).bind fun v7 =>
    (fx_gR h x0 3 1).bind fun v9 =>
    (fx_gI h v7 2 0).bind fun v11 =>
    (fx_aI h v9 v11).bind fun v13 =>
    if v13 = x1 then
      (fx_gI h v7 2 3).bind fun v16 =>
      if v16 ≠ 0 then
        some (kl 0)
      else
        (fx_gI h v7 2 2).bind fun v19 =>
        (F_X5_refusalFor h (kb 11) v19).bind fun v21 =>
        some v21
    else
      (fx_gR h x0 3 1).bind fun v23 =>
      (fx_gI h v7 2 1).bind fun v25 =>
      (fx_aI h v23 v25).bind fun v27 =>
      if v27 = x1 then
        (fx_gI h v7 2 3).bind fun v30 =>
        if v30 ≠ 0 then
          some (kl 0)
        else
          (fx_gI h v7 2 2).bind fun v33 =>
          (F_X5_refusalFor h (kb 11) v33).bind fun v35 =>
          some v35
      else
        (F_X5_refusalFor h (kb 10) x2).bind fun v37 =>
        some v37
  else
    some v2
theorem r_X3_whyNotLevy {X : mm_Cl} (hX : mm_mono X) {d c k : Nat} {Q : mm_Re → Prop} {h : mm_S} {x0 : Nat} {x1 : Int32} {x2 : Int32} {o : Int64} (hF : F_X3_whyNotLevy h x0 x1 x2 = some o) (hQ : Q (.inl (some (.long o)), h)) : mm_Run X (d + 4) 36 c k [.ref x0, .int x1, .int x2] h Q := by
  unfold F_X3_whyNotLevy at hF
  refine mm_Run_in (by decide) (by decide) (Nat.le_of_ble_eq_true rfl) ?_
  show mm_Ex (mm_Run X (d + 3)) 36 Q (0, [], [(0, .ref x0), (1, .int x1), (2, .int x2)], h) c k
  refine go_adv hX c_36 3 (F2 := (3, [.int x2, .int x1, .ref x0], [(0, .ref x0), (1, .int x1), (2, .int x2)], h)) rfl ?_
  obtain ⟨_, e1, hF⟩ := mm_bind hF
  obtain ⟨v2, e3, hF⟩ := mm_bind hF
  refine go_cV hX (As := [.int x1, .int x2]) (rv := some (.long v2)) (h2 := h) (ci := 3) c_36 rfl (Nat.le_of_ble_eq_true rfl) rfl rfl e1 (by decide) (Nat.le_of_ble_eq_true rfl) (fun Q2 hQ2 => r_X3_whyNoGiantOrStair hX (d := d) e3 hQ2) ?_
  refine go_adv hX c_36 4 (F2 := (10, [.int (lg_cmp v2 (kl 0))], [(3, .long v2), (0, .ref x0), (1, .int x1), (2, .int x2)], h)) rfl ?_
  rcases mm_ite hF with ⟨hc4, hF⟩ | ⟨hc4, hF⟩
  · refine go_zt hX 15 c_36 rfl rfl hc4 ?_
    refine go_adv hX c_36 1 (F2 := (16, [.ref x0], [(3, .long v2), (0, .ref x0), (1, .int x1), (2, .int x2)], h)) rfl ?_
    obtain ⟨v5, e6, hF⟩ := mm_bind hF
    refine go_gR hX c_36 rfl e6 ?_
    refine go_adv hX c_36 1 (F2 := (20, [.int x2, .ref v5], [(3, .long v2), (0, .ref x0), (1, .int x1), (2, .int x2)], h)) rfl ?_
    obtain ⟨v7, e8, hF⟩ := mm_bind hF
    refine go_aR hX c_36 rfl e8 ?_
    refine go_adv hX c_36 2 (F2 := (24, [.ref x0], [(5, .ref v7), (3, .long v2), (0, .ref x0), (1, .int x1), (2, .int x2)], h)) rfl ?_
    obtain ⟨v9, e10, hF⟩ := mm_bind hF
    refine go_gR hX c_36 rfl e10 ?_
    refine go_adv hX c_36 1 (F2 := (29, [.ref v7, .ref v9], [(5, .ref v7), (3, .long v2), (0, .ref x0), (1, .int x1), (2, .int x2)], h)) rfl ?_
    obtain ⟨v11, e12, hF⟩ := mm_bind hF
    refine go_gI hX c_36 rfl e12 ?_
    obtain ⟨v13, e14, hF⟩ := mm_bind hF
    refine go_aI hX c_36 rfl e14 ?_
    refine go_adv hX c_36 1 (F2 := (34, [.int x1, .int v13], [(5, .ref v7), (3, .long v2), (0, .ref x0), (1, .int x1), (2, .int x2)], h)) rfl ?_
    rcases mm_ite hF with ⟨hc15, hF⟩ | ⟨hc15, hF⟩
    · refine go_ct hX 58 c_36 rfl rfl hc15 ?_
      refine go_adv hX c_36 1 (F2 := (60, [.ref v7], [(5, .ref v7), (3, .long v2), (0, .ref x0), (1, .int x1), (2, .int x2)], h)) rfl ?_
      obtain ⟨v16, e17, hF⟩ := mm_bind hF
      refine go_gI hX c_36 rfl e17 ?_
      rcases mm_ite hF with ⟨hc18, hF⟩ | ⟨hc18, hF⟩
      · refine go_zt hX 77 c_36 rfl rfl hc18 ?_
        refine go_adv hX c_36 1 (F2 := (78, [.long (kl 0)], [(5, .ref v7), (3, .long v2), (0, .ref x0), (1, .int x1), (2, .int x2)], h)) rfl ?_
        cases hF
        exact go_lret hX c_36 rfl rfl hQ
      · refine go_zf hX c_36 rfl (by decide) hc18 ?_
        refine go_adv hX c_36 2 (F2 := (70, [.ref v7, .int (kb 11)], [(5, .ref v7), (3, .long v2), (0, .ref x0), (1, .int x1), (2, .int x2)], h)) rfl ?_
        obtain ⟨v19, e20, hF⟩ := mm_bind hF
        refine go_gI hX c_36 rfl e20 ?_
        obtain ⟨v21, e22, hF⟩ := mm_bind hF
        refine go_cS hX (As := [.int (kb 11), .int v19]) (rv := some (.long v21)) (h2 := h) c_36 rfl (by decide) (Nat.le_of_ble_eq_true rfl) rfl rfl (Nat.le_of_ble_eq_true rfl) (fun Q2 hQ2 => r_X5_refusalFor hX (d := (d + 2)) e22 hQ2) ?_
        cases hF
        exact go_lret hX c_36 rfl rfl hQ
    · refine go_cf hX c_36 rfl (by decide) hc15 ?_
      refine go_adv hX c_36 1 (F2 := (38, [.ref x0], [(5, .ref v7), (3, .long v2), (0, .ref x0), (1, .int x1), (2, .int x2)], h)) rfl ?_
      obtain ⟨v23, e24, hF⟩ := mm_bind hF
      refine go_gR hX c_36 rfl e24 ?_
      refine go_adv hX c_36 1 (F2 := (43, [.ref v7, .ref v23], [(5, .ref v7), (3, .long v2), (0, .ref x0), (1, .int x1), (2, .int x2)], h)) rfl ?_
      obtain ⟨v25, e26, hF⟩ := mm_bind hF
      refine go_gI hX c_36 rfl e26 ?_
      obtain ⟨v27, e28, hF⟩ := mm_bind hF
      refine go_aI hX c_36 rfl e28 ?_
      refine go_adv hX c_36 1 (F2 := (48, [.int x1, .int v27], [(5, .ref v7), (3, .long v2), (0, .ref x0), (1, .int x1), (2, .int x2)], h)) rfl ?_
      rcases mm_ite hF with ⟨hc29, hF⟩ | ⟨hc29, hF⟩
      · refine go_ct hX 58 c_36 rfl rfl hc29 ?_
        refine go_adv hX c_36 1 (F2 := (60, [.ref v7], [(5, .ref v7), (3, .long v2), (0, .ref x0), (1, .int x1), (2, .int x2)], h)) rfl ?_
        obtain ⟨v30, e31, hF⟩ := mm_bind hF
        refine go_gI hX c_36 rfl e31 ?_
        rcases mm_ite hF with ⟨hc32, hF⟩ | ⟨hc32, hF⟩
        · refine go_zt hX 77 c_36 rfl rfl hc32 ?_
          refine go_adv hX c_36 1 (F2 := (78, [.long (kl 0)], [(5, .ref v7), (3, .long v2), (0, .ref x0), (1, .int x1), (2, .int x2)], h)) rfl ?_
          cases hF
          exact go_lret hX c_36 rfl rfl hQ
        · refine go_zf hX c_36 rfl (by decide) hc32 ?_
          refine go_adv hX c_36 2 (F2 := (70, [.ref v7, .int (kb 11)], [(5, .ref v7), (3, .long v2), (0, .ref x0), (1, .int x1), (2, .int x2)], h)) rfl ?_
          obtain ⟨v33, e34, hF⟩ := mm_bind hF
          refine go_gI hX c_36 rfl e34 ?_
          obtain ⟨v35, e36, hF⟩ := mm_bind hF
          refine go_cS hX (As := [.int (kb 11), .int v33]) (rv := some (.long v35)) (h2 := h) c_36 rfl (by decide) (Nat.le_of_ble_eq_true rfl) rfl rfl (Nat.le_of_ble_eq_true rfl) (fun Q2 hQ2 => r_X5_refusalFor hX (d := (d + 2)) e36 hQ2) ?_
          cases hF
          exact go_lret hX c_36 rfl rfl hQ
      · refine go_cf hX c_36 rfl (by decide) hc29 ?_
        refine go_adv hX c_36 2 (F2 := (54, [.int x2, .int (kb 10)], [(5, .ref v7), (3, .long v2), (0, .ref x0), (1, .int x1), (2, .int x2)], h)) rfl ?_
        obtain ⟨v37, e38, hF⟩ := mm_bind hF
        refine go_cS hX (As := [.int (kb 10), .int x2]) (rv := some (.long v37)) (h2 := h) c_36 rfl (by decide) (Nat.le_of_ble_eq_true rfl) rfl rfl (Nat.le_of_ble_eq_true rfl) (fun Q2 hQ2 => r_X5_refusalFor hX (d := (d + 2)) e38 hQ2) ?_
        cases hF
        exact go_lret hX c_36 rfl rfl hQ
  · refine go_zf hX c_36 rfl (by decide) hc4 ?_
    refine go_adv hX c_36 1 (F2 := (14, [.long v2], [(3, .long v2), (0, .ref x0), (1, .int x1), (2, .int x2)], h)) rfl ?_
    cases hF
    exact go_lret hX c_36 rfl rfl hQ
theorem c_49 : mm_cd 49 = k_X3_whoStandsOn := rfl
def F_X3_whoStandsOn_L2 (h : mm_S) : Nat → Nat → Int32 → Int32 → Option (Int32 ⊕ Unit)
  | 0, _, _, _ => none
  | n + 1, x0, x1, x2 =>
    if (ki 2) ≤ x2 then
      some (.inr (()))
    else
      (fx_gR h x0 3 0).bind fun v2 =>
      (fx_aR h v2 x2).bind fun v4 =>
      (fx_gI h v4 0 1).bind fun v6 =>
      if v6 ≠ x1 then
        F_X3_whoStandsOn_L2 h n x0 x1 (x2 + ki 1)
      else
        some (.inl x2)
def F_X3_whoStandsOn (h : mm_S) (x0 : Nat) (x1 : Int32) : Option Int32 :=
  (F_X3_whoStandsOn_L2 h 1000 x0 x1 (ki 0)).bind fun o9 => match o9 with
    | .inl o9r => some o9r
    | .inr o9e =>
      some (ki (-1))
theorem r_X3_whoStandsOn_L2 {X : mm_Cl} (hX : mm_mono X) {d c k : Nat} {Q : mm_Re → Prop} {h : mm_S} : ∀ (n : Nat) (x0 : Nat) (x1 : Int32) (x2 : Int32) (o : (Int32 ⊕ Unit)), F_X3_whoStandsOn_L2 h n x0 x1 x2 = some o → (∀ r, o = .inl r → Q (.inl (some (.int r)), h)) → (∀ e, o = .inr e → mm_Ex (mm_Run X d) 49 Q (28, [], [], h) c k) → mm_Ex (mm_Run X d) 49 Q (2, [], [(0, .ref x0), (1, .int x1), (2, .int x2)], h) c k := by
  intro n
  induction n with
  | zero => intro x0 x1 x2 o hF; cases hF
  | succ n ih =>
    intro x0 x1 x2 o hF hR hE
    unfold F_X3_whoStandsOn_L2 at hF
    refine go_adv hX c_49 2 (F2 := (4, [.int (ki 2), .int x2], [(0, .ref x0), (1, .int x1), (2, .int x2)], h)) rfl ?_
    rcases mm_ite hF with ⟨hc1, hF⟩ | ⟨hc1, hF⟩
    · refine go_ct hX 28 c_49 rfl rfl hc1 ?_
      cases hF
      refine go_ls [] trivial ?_
      exact hE _ rfl
    · refine go_cf hX c_49 rfl (by decide) hc1 ?_
      refine go_adv hX c_49 1 (F2 := (8, [.ref x0], [(0, .ref x0), (1, .int x1), (2, .int x2)], h)) rfl ?_
      obtain ⟨v2, e3, hF⟩ := mm_bind hF
      refine go_gR hX c_49 rfl e3 ?_
      refine go_adv hX c_49 1 (F2 := (12, [.int x2, .ref v2], [(0, .ref x0), (1, .int x1), (2, .int x2)], h)) rfl ?_
      obtain ⟨v4, e5, hF⟩ := mm_bind hF
      refine go_aR hX c_49 rfl e5 ?_
      obtain ⟨v6, e7, hF⟩ := mm_bind hF
      refine go_gI hX c_49 rfl e7 ?_
      refine go_adv hX c_49 1 (F2 := (17, [.int x1, .int v6], [(0, .ref x0), (1, .int x1), (2, .int x2)], h)) rfl ?_
      rcases mm_ite hF with ⟨hc8, hF⟩ | ⟨hc8, hF⟩
      · refine go_ct hX 22 c_49 rfl rfl hc8 ?_
        refine go_adv hX c_49 1 (F2 := (25, [], [(2, .int (x2 + ki 1)), (0, .ref x0), (1, .int x1)], h)) rfl ?_
        refine go_to hX 2 c_49 rfl rfl ?_
        refine go_ls [(0, .ref x0), (1, .int x1), (2, .int (x2 + ki 1))] ⟨rfl, ⟨rfl, ⟨rfl, trivial⟩⟩⟩ ?_
        exact ih x0 x1 (x2 + ki 1) _ hF hR hE
      · refine go_cf hX c_49 rfl (by decide) hc8 ?_
        refine go_adv hX c_49 1 (F2 := (21, [.int x2], [(0, .ref x0), (1, .int x1), (2, .int x2)], h)) rfl ?_
        cases hF
        have hQ := hR _ rfl
        exact go_iret hX c_49 rfl rfl rfl hQ
theorem r_X3_whoStandsOn {X : mm_Cl} (hX : mm_mono X) {d c k : Nat} {Q : mm_Re → Prop} {h : mm_S} {x0 : Nat} {x1 : Int32} {o : Int32} (hF : F_X3_whoStandsOn h x0 x1 = some o) (hQ : Q (.inl (some (.int o)), h)) : mm_Run X (d + 1) 49 c k [.ref x0, .int x1] h Q := by
  unfold F_X3_whoStandsOn at hF
  refine mm_Run_in (by decide) (by decide) (Nat.le_of_ble_eq_true rfl) ?_
  show mm_Ex (mm_Run X d) 49 Q (0, [], [(0, .ref x0), (1, .int x1)], h) c k
  refine go_adv hX c_49 2 (F2 := (2, [], [(2, .int (ki 0)), (0, .ref x0), (1, .int x1)], h)) rfl ?_
  refine go_ls [(0, .ref x0), (1, .int x1), (2, .int (ki 0))] ⟨rfl, ⟨rfl, ⟨rfl, trivial⟩⟩⟩ ?_
  obtain ⟨o9, e10, hF⟩ := mm_bind hF
  refine r_X3_whoStandsOn_L2 hX 1000 x0 x1 (ki 0) o9 e10 ?_ ?_
  · intro o9r hr
    subst hr
    dsimp only at hF
    cases hF
    exact hQ
  · intro o9e he
    subst he
    dsimp only at hF
    refine go_adv hX c_49 1 (F2 := (29, [.int (ki (-1))], [], h)) rfl ?_
    cases hF
    exact go_iret hX c_49 rfl rfl rfl hQ
theorem c_47 : mm_cd 47 = k_X3_joinedWith := rfl
def F_X3_joinedWith_L4 (h : mm_S) : Nat → Nat → Int32 → Int32 → Int32 → Option Int32
  | 0, _, _, _, _ => none
  | n + 1, x0, x1, x2, x3 =>
    (fx_gI h x0 3 3).bind fun v1 =>
    if v1 ≤ x3 then
      some x2
    else
      (fx_gR h x0 3 2).bind fun v4 =>
      (fx_aR h v4 x3).bind fun v6 =>
      (fx_is h v6 2).bind fun _ =>
      (F_X2_isEnd h v6 x1).bind fun v9 =>
      if v9 = 0 then
        F_X3_joinedWith_L4 h n x0 x1 x2 (x3 + ki 1)
      else
        (fx_gR h x0 3 2).bind fun v12 =>
        (fx_aR h v12 x3).bind fun v14 =>
        (fx_is h v14 2).bind fun _ =>
        (F_X2_otherEnd h v14 x1).bind fun v17 =>
        F_X3_joinedWith_L4 h n x0 x1 (x2 ||| ((ki 1) <<< (v17 &&& 31))) (x3 + ki 1)
def F_X3_joinedWith (h : mm_S) (x0 : Nat) (x1 : Int32) : Option Int32 :=
  (F_X3_joinedWith_L4 h 1000 x0 x1 (ki 0) (ki 0)).bind fun o19 =>
  some o19
theorem r_X3_joinedWith_L4 {X : mm_Cl} (hX : mm_mono X) {d c k : Nat} {Q : mm_Re → Prop} {h : mm_S} : ∀ (n : Nat) (x0 : Nat) (x1 : Int32) (x2 : Int32) (x3 : Int32) (o : Int32), F_X3_joinedWith_L4 h n x0 x1 x2 x3 = some o → (mm_Ex (mm_Run X (d + 1)) 47 Q (46, [], [(2, .int o)], h) c k) → mm_Ex (mm_Run X (d + 1)) 47 Q (4, [], [(0, .ref x0), (1, .int x1), (2, .int x2), (3, .int x3)], h) c k := by
  intro n
  induction n with
  | zero => intro x0 x1 x2 x3 o hF; cases hF
  | succ n ih =>
    intro x0 x1 x2 x3 o hF hE
    unfold F_X3_joinedWith_L4 at hF
    refine go_adv hX c_47 2 (F2 := (6, [.ref x0, .int x3], [(0, .ref x0), (1, .int x1), (2, .int x2), (3, .int x3)], h)) rfl ?_
    obtain ⟨v1, e2, hF⟩ := mm_bind hF
    refine go_gI hX c_47 rfl e2 ?_
    rcases mm_ite hF with ⟨hc3, hF⟩ | ⟨hc3, hF⟩
    · refine go_ct hX 46 c_47 rfl rfl hc3 ?_
      cases hF
      refine go_ls [(2, .int x2)] ⟨rfl, trivial⟩ ?_
      exact hE
    · refine go_cf hX c_47 rfl (by decide) hc3 ?_
      refine go_adv hX c_47 1 (F2 := (13, [.ref x0], [(0, .ref x0), (1, .int x1), (2, .int x2), (3, .int x3)], h)) rfl ?_
      obtain ⟨v4, e5, hF⟩ := mm_bind hF
      refine go_gR hX c_47 rfl e5 ?_
      refine go_adv hX c_47 1 (F2 := (17, [.int x3, .ref v4], [(0, .ref x0), (1, .int x1), (2, .int x2), (3, .int x3)], h)) rfl ?_
      obtain ⟨v6, e7, hF⟩ := mm_bind hF
      refine go_aR hX c_47 rfl e7 ?_
      refine go_adv hX c_47 1 (F2 := (19, [.int x1, .ref v6], [(0, .ref x0), (1, .int x1), (2, .int x2), (3, .int x3)], h)) rfl ?_
      obtain ⟨_, e8, hF⟩ := mm_bind hF
      obtain ⟨v9, e10, hF⟩ := mm_bind hF
      refine go_cV hX (As := [.int x1]) (rv := some (.int v9)) (h2 := h) (ci := 2) c_47 rfl (Nat.le_of_ble_eq_true rfl) rfl rfl e8 (by decide) (Nat.le_of_ble_eq_true rfl) (fun Q2 hQ2 => r_X2_isEnd hX (d := d) e10 hQ2) ?_
      rcases mm_ite hF with ⟨hc11, hF⟩ | ⟨hc11, hF⟩
      · refine go_zt hX 40 c_47 rfl rfl hc11 ?_
        refine go_adv hX c_47 1 (F2 := (43, [], [(3, .int (x3 + ki 1)), (0, .ref x0), (1, .int x1), (2, .int x2)], h)) rfl ?_
        refine go_to hX 4 c_47 rfl rfl ?_
        refine go_ls [(0, .ref x0), (1, .int x1), (2, .int x2), (3, .int (x3 + ki 1))] ⟨rfl, ⟨rfl, ⟨rfl, ⟨rfl, trivial⟩⟩⟩⟩ ?_
        exact ih x0 x1 x2 (x3 + ki 1) _ hF hE
      · refine go_zf hX c_47 rfl (by decide) hc11 ?_
        refine go_adv hX c_47 3 (F2 := (28, [.ref x0, .int (ki 1), .int x2], [(0, .ref x0), (1, .int x1), (2, .int x2), (3, .int x3)], h)) rfl ?_
        obtain ⟨v12, e13, hF⟩ := mm_bind hF
        refine go_gR hX c_47 rfl e13 ?_
        refine go_adv hX c_47 1 (F2 := (32, [.int x3, .ref v12, .int (ki 1), .int x2], [(0, .ref x0), (1, .int x1), (2, .int x2), (3, .int x3)], h)) rfl ?_
        obtain ⟨v14, e15, hF⟩ := mm_bind hF
        refine go_aR hX c_47 rfl e15 ?_
        refine go_adv hX c_47 1 (F2 := (34, [.int x1, .ref v14, .int (ki 1), .int x2], [(0, .ref x0), (1, .int x1), (2, .int x2), (3, .int x3)], h)) rfl ?_
        obtain ⟨_, e16, hF⟩ := mm_bind hF
        obtain ⟨v17, e18, hF⟩ := mm_bind hF
        refine go_cV hX (As := [.int x1]) (rv := some (.int v17)) (h2 := h) (ci := 2) c_47 rfl (Nat.le_of_ble_eq_true rfl) rfl rfl e16 (by decide) (Nat.le_of_ble_eq_true rfl) (fun Q2 hQ2 => r_X2_otherEnd hX (d := d) e18 hQ2) ?_
        refine go_adv hX c_47 4 (F2 := (43, [], [(3, .int (x3 + ki 1)), (2, .int (x2 ||| ((ki 1) <<< (v17 &&& 31)))), (0, .ref x0), (1, .int x1)], h)) rfl ?_
        refine go_to hX 4 c_47 rfl rfl ?_
        refine go_ls [(0, .ref x0), (1, .int x1), (2, .int (x2 ||| ((ki 1) <<< (v17 &&& 31)))), (3, .int (x3 + ki 1))] ⟨rfl, ⟨rfl, ⟨rfl, ⟨rfl, trivial⟩⟩⟩⟩ ?_
        exact ih x0 x1 (x2 ||| ((ki 1) <<< (v17 &&& 31))) (x3 + ki 1) _ hF hE
theorem r_X3_joinedWith {X : mm_Cl} (hX : mm_mono X) {d c k : Nat} {Q : mm_Re → Prop} {h : mm_S} {x0 : Nat} {x1 : Int32} {o : Int32} (hF : F_X3_joinedWith h x0 x1 = some o) (hQ : Q (.inl (some (.int o)), h)) : mm_Run X (d + 2) 47 c k [.ref x0, .int x1] h Q := by
  unfold F_X3_joinedWith at hF
  refine mm_Run_in (by decide) (by decide) (Nat.le_of_ble_eq_true rfl) ?_
  show mm_Ex (mm_Run X (d + 1)) 47 Q (0, [], [(0, .ref x0), (1, .int x1)], h) c k
  refine go_adv hX c_47 4 (F2 := (4, [], [(3, .int (ki 0)), (2, .int (ki 0)), (0, .ref x0), (1, .int x1)], h)) rfl ?_
  refine go_ls [(0, .ref x0), (1, .int x1), (2, .int (ki 0)), (3, .int (ki 0))] ⟨rfl, ⟨rfl, ⟨rfl, ⟨rfl, trivial⟩⟩⟩⟩ ?_
  obtain ⟨o19, e20, hF⟩ := mm_bind hF
  refine r_X3_joinedWith_L4 hX 1000 x0 x1 (ki 0) (ki 0) o19 e20 ?_
  refine go_adv hX c_47 1 (F2 := (47, [.int o19], [(2, .int o19)], h)) rfl ?_
  cases hF
  exact go_iret hX c_47 rfl rfl rfl hQ
theorem c_48 : mm_cd 48 = k_X3_isNextTo := rfl
def F_X3_isNextTo_L9 (h : mm_S) : Nat → Nat → Int32 → Int32 → Int32 → Option (Int32 ⊕ Unit)
  | 0, _, _, _, _ => none
  | n + 1, x0, x2, x3, x4 =>
    if (kb 8) ≤ x4 then
      some (.inr (()))
    else
      if ((x3 >>> (x4 &&& 31)) &&& (ki 1)) ≠ (ki 1) then
        F_X3_isNextTo_L9 h n x0 x2 x3 (x4 + ki 1)
      else
        (fx_gR h x0 3 1).bind fun v6 =>
        (fx_aI h v6 x4).bind fun v8 =>
        if v8 ≠ x2 then
          F_X3_isNextTo_L9 h n x0 x2 x3 (x4 + ki 1)
        else
          some (.inl (ki 1))
def F_X3_isNextTo (h : mm_S) (x0 : Nat) (x1 : Int32) (x2 : Int32) : Option Int32 :=
  (fx_is h x0 3).bind fun _ =>
  (F_X3_joinedWith h x0 x1).bind fun v2 =>
  (F_X3_isNextTo_L9 h 1000 x0 x2 v2 (ki 0)).bind fun o11 => match o11 with
    | .inl o11r => some o11r
    | .inr o11e =>
      some (ki 0)
theorem r_X3_isNextTo_L9 {X : mm_Cl} (hX : mm_mono X) {d c k : Nat} {Q : mm_Re → Prop} {h : mm_S} : ∀ (n : Nat) (x0 : Nat) (x2 : Int32) (x3 : Int32) (x4 : Int32) (o : (Int32 ⊕ Unit)), F_X3_isNextTo_L9 h n x0 x2 x3 x4 = some o → (∀ r, o = .inl r → Q (.inl (some (.int r)), h)) → (∀ e, o = .inr e → mm_Ex (mm_Run X (d + 2)) 48 Q (45, [], [], h) c k) → mm_Ex (mm_Run X (d + 2)) 48 Q (9, [], [(0, .ref x0), (2, .int x2), (3, .int x3), (4, .int x4)], h) c k := by
  intro n
  induction n with
  | zero => intro x0 x2 x3 x4 o hF; cases hF
  | succ n ih =>
    intro x0 x2 x3 x4 o hF hR hE
    unfold F_X3_isNextTo_L9 at hF
    refine go_adv hX c_48 2 (F2 := (13, [.int (kb 8), .int x4], [(0, .ref x0), (2, .int x2), (3, .int x3), (4, .int x4)], h)) rfl ?_
    rcases mm_ite hF with ⟨hc4, hF⟩ | ⟨hc4, hF⟩
    · refine go_ct hX 45 c_48 rfl rfl hc4 ?_
      cases hF
      refine go_ls [] trivial ?_
      exact hE _ rfl
    · refine go_cf hX c_48 rfl (by decide) hc4 ?_
      refine go_adv hX c_48 6 (F2 := (23, [.int (ki 1), .int ((x3 >>> (x4 &&& 31)) &&& (ki 1))], [(0, .ref x0), (2, .int x2), (3, .int x3), (4, .int x4)], h)) rfl ?_
      rcases mm_ite hF with ⟨hc5, hF⟩ | ⟨hc5, hF⟩
      · refine go_ct hX 39 c_48 rfl rfl hc5 ?_
        refine go_adv hX c_48 1 (F2 := (42, [], [(4, .int (x4 + ki 1)), (0, .ref x0), (2, .int x2), (3, .int x3)], h)) rfl ?_
        refine go_to hX 9 c_48 rfl rfl ?_
        refine go_ls [(0, .ref x0), (2, .int x2), (3, .int x3), (4, .int (x4 + ki 1))] ⟨rfl, ⟨rfl, ⟨rfl, ⟨rfl, trivial⟩⟩⟩⟩ ?_
        exact ih x0 x2 x3 (x4 + ki 1) _ hF hR hE
      · refine go_cf hX c_48 rfl (by decide) hc5 ?_
        refine go_adv hX c_48 1 (F2 := (27, [.ref x0], [(0, .ref x0), (2, .int x2), (3, .int x3), (4, .int x4)], h)) rfl ?_
        obtain ⟨v6, e7, hF⟩ := mm_bind hF
        refine go_gR hX c_48 rfl e7 ?_
        refine go_adv hX c_48 1 (F2 := (32, [.int x4, .ref v6], [(0, .ref x0), (2, .int x2), (3, .int x3), (4, .int x4)], h)) rfl ?_
        obtain ⟨v8, e9, hF⟩ := mm_bind hF
        refine go_aI hX c_48 rfl e9 ?_
        refine go_adv hX c_48 1 (F2 := (34, [.int x2, .int v8], [(0, .ref x0), (2, .int x2), (3, .int x3), (4, .int x4)], h)) rfl ?_
        rcases mm_ite hF with ⟨hc10, hF⟩ | ⟨hc10, hF⟩
        · refine go_ct hX 39 c_48 rfl rfl hc10 ?_
          refine go_adv hX c_48 1 (F2 := (42, [], [(4, .int (x4 + ki 1)), (0, .ref x0), (2, .int x2), (3, .int x3)], h)) rfl ?_
          refine go_to hX 9 c_48 rfl rfl ?_
          refine go_ls [(0, .ref x0), (2, .int x2), (3, .int x3), (4, .int (x4 + ki 1))] ⟨rfl, ⟨rfl, ⟨rfl, ⟨rfl, trivial⟩⟩⟩⟩ ?_
          exact ih x0 x2 x3 (x4 + ki 1) _ hF hR hE
        · refine go_cf hX c_48 rfl (by decide) hc10 ?_
          refine go_adv hX c_48 1 (F2 := (38, [.int (ki 1)], [(0, .ref x0), (2, .int x2), (3, .int x3), (4, .int x4)], h)) rfl ?_
          cases hF
          have hQ := hR _ rfl
          exact go_iret hX c_48 rfl rfl (by decide) hQ
theorem r_X3_isNextTo {X : mm_Cl} (hX : mm_mono X) {d c k : Nat} {Q : mm_Re → Prop} {h : mm_S} {x0 : Nat} {x1 : Int32} {x2 : Int32} {o : Int32} (hF : F_X3_isNextTo h x0 x1 x2 = some o) (hQ : Q (.inl (some (.int o)), h)) : mm_Run X (d + 3) 48 c k [.ref x0, .int x1, .int x2] h Q := by
  unfold F_X3_isNextTo at hF
  refine mm_Run_in (by decide) (by decide) (Nat.le_of_ble_eq_true rfl) ?_
  show mm_Ex (mm_Run X (d + 2)) 48 Q (0, [], [(0, .ref x0), (1, .int x1), (2, .int x2)], h) c k
  refine go_adv hX c_48 2 (F2 := (2, [.int x1, .ref x0], [(0, .ref x0), (1, .int x1), (2, .int x2)], h)) rfl ?_
  obtain ⟨_, e1, hF⟩ := mm_bind hF
  obtain ⟨v2, e3, hF⟩ := mm_bind hF
  refine go_cV hX (As := [.int x1]) (rv := some (.int v2)) (h2 := h) (ci := 3) c_48 rfl (Nat.le_of_ble_eq_true rfl) rfl rfl e1 (by decide) (Nat.le_of_ble_eq_true rfl) (fun Q2 hQ2 => r_X3_joinedWith hX (d := d) e3 hQ2) ?_
  refine go_adv hX c_48 3 (F2 := (9, [], [(4, .int (ki 0)), (3, .int v2), (0, .ref x0), (1, .int x1), (2, .int x2)], h)) rfl ?_
  refine go_ls [(0, .ref x0), (2, .int x2), (3, .int v2), (4, .int (ki 0))] ⟨rfl, ⟨rfl, ⟨rfl, ⟨rfl, trivial⟩⟩⟩⟩ ?_
  obtain ⟨o11, e12, hF⟩ := mm_bind hF
  refine r_X3_isNextTo_L9 hX 1000 x0 x2 v2 (ki 0) o11 e12 ?_ ?_
  · intro o11r hr
    subst hr
    dsimp only at hF
    cases hF
    exact hQ
  · intro o11e he
    subst he
    dsimp only at hF
    refine go_adv hX c_48 1 (F2 := (46, [.int (ki 0)], [], h)) rfl ?_
    cases hF
    exact go_iret hX c_48 rfl rfl (by decide) hQ
theorem c_50 : mm_cd 50 = k_X3_landingsOf := rfl
def F_X3_landingsOf_L4 (h : mm_S) : Nat → Nat → Int32 → Int32 → Int32 → Option Int32
  | 0, _, _, _, _ => none
  | n + 1, x0, x1, x2, x3 =>
    if (kb 8) ≤ x3 then
      some x2
    else
      (fx_gR h x0 3 1).bind fun v2 =>
      (fx_aI h v2 x3).bind fun v4 =>
      if v4 ≠ x1 then
        F_X3_landingsOf_L4 h n x0 x1 x2 (x3 + ki 1)
      else
        F_X3_landingsOf_L4 h n x0 x1 (x2 + ki 1) (x3 + ki 1)
def F_X3_landingsOf (h : mm_S) (x0 : Nat) (x1 : Int32) : Option Int32 :=
  (F_X3_landingsOf_L4 h 1000 x0 x1 (ki 0) (ki 0)).bind fun o7 =>
  some o7
theorem r_X3_landingsOf_L4 {X : mm_Cl} (hX : mm_mono X) {d c k : Nat} {Q : mm_Re → Prop} {h : mm_S} : ∀ (n : Nat) (x0 : Nat) (x1 : Int32) (x2 : Int32) (x3 : Int32) (o : Int32), F_X3_landingsOf_L4 h n x0 x1 x2 x3 = some o → (mm_Ex (mm_Run X d) 50 Q (29, [], [(2, .int o)], h) c k) → mm_Ex (mm_Run X d) 50 Q (4, [], [(0, .ref x0), (1, .int x1), (2, .int x2), (3, .int x3)], h) c k := by
  intro n
  induction n with
  | zero => intro x0 x1 x2 x3 o hF; cases hF
  | succ n ih =>
    intro x0 x1 x2 x3 o hF hE
    unfold F_X3_landingsOf_L4 at hF
    refine go_adv hX c_50 2 (F2 := (7, [.int (kb 8), .int x3], [(0, .ref x0), (1, .int x1), (2, .int x2), (3, .int x3)], h)) rfl ?_
    rcases mm_ite hF with ⟨hc1, hF⟩ | ⟨hc1, hF⟩
    · refine go_ct hX 29 c_50 rfl rfl hc1 ?_
      cases hF
      refine go_ls [(2, .int x2)] ⟨rfl, trivial⟩ ?_
      exact hE
    · refine go_cf hX c_50 rfl (by decide) hc1 ?_
      refine go_adv hX c_50 1 (F2 := (11, [.ref x0], [(0, .ref x0), (1, .int x1), (2, .int x2), (3, .int x3)], h)) rfl ?_
      obtain ⟨v2, e3, hF⟩ := mm_bind hF
      refine go_gR hX c_50 rfl e3 ?_
      refine go_adv hX c_50 1 (F2 := (15, [.int x3, .ref v2], [(0, .ref x0), (1, .int x1), (2, .int x2), (3, .int x3)], h)) rfl ?_
      obtain ⟨v4, e5, hF⟩ := mm_bind hF
      refine go_aI hX c_50 rfl e5 ?_
      refine go_adv hX c_50 1 (F2 := (17, [.int x1, .int v4], [(0, .ref x0), (1, .int x1), (2, .int x2), (3, .int x3)], h)) rfl ?_
      rcases mm_ite hF with ⟨hc6, hF⟩ | ⟨hc6, hF⟩
      · refine go_ct hX 23 c_50 rfl rfl hc6 ?_
        refine go_adv hX c_50 1 (F2 := (26, [], [(3, .int (x3 + ki 1)), (0, .ref x0), (1, .int x1), (2, .int x2)], h)) rfl ?_
        refine go_to hX 4 c_50 rfl rfl ?_
        refine go_ls [(0, .ref x0), (1, .int x1), (2, .int x2), (3, .int (x3 + ki 1))] ⟨rfl, ⟨rfl, ⟨rfl, ⟨rfl, trivial⟩⟩⟩⟩ ?_
        exact ih x0 x1 x2 (x3 + ki 1) _ hF hE
      · refine go_cf hX c_50 rfl (by decide) hc6 ?_
        refine go_adv hX c_50 2 (F2 := (26, [], [(3, .int (x3 + ki 1)), (2, .int (x2 + ki 1)), (0, .ref x0), (1, .int x1)], h)) rfl ?_
        refine go_to hX 4 c_50 rfl rfl ?_
        refine go_ls [(0, .ref x0), (1, .int x1), (2, .int (x2 + ki 1)), (3, .int (x3 + ki 1))] ⟨rfl, ⟨rfl, ⟨rfl, ⟨rfl, trivial⟩⟩⟩⟩ ?_
        exact ih x0 x1 (x2 + ki 1) (x3 + ki 1) _ hF hE
theorem r_X3_landingsOf {X : mm_Cl} (hX : mm_mono X) {d c k : Nat} {Q : mm_Re → Prop} {h : mm_S} {x0 : Nat} {x1 : Int32} {o : Int32} (hF : F_X3_landingsOf h x0 x1 = some o) (hQ : Q (.inl (some (.int o)), h)) : mm_Run X (d + 1) 50 c k [.ref x0, .int x1] h Q := by
  unfold F_X3_landingsOf at hF
  refine mm_Run_in (by decide) (by decide) (Nat.le_of_ble_eq_true rfl) ?_
  show mm_Ex (mm_Run X d) 50 Q (0, [], [(0, .ref x0), (1, .int x1)], h) c k
  refine go_adv hX c_50 4 (F2 := (4, [], [(3, .int (ki 0)), (2, .int (ki 0)), (0, .ref x0), (1, .int x1)], h)) rfl ?_
  refine go_ls [(0, .ref x0), (1, .int x1), (2, .int (ki 0)), (3, .int (ki 0))] ⟨rfl, ⟨rfl, ⟨rfl, ⟨rfl, trivial⟩⟩⟩⟩ ?_
  obtain ⟨o7, e8, hF⟩ := mm_bind hF
  refine r_X3_landingsOf_L4 hX 1000 x0 x1 (ki 0) (ki 0) o7 e8 ?_
  refine go_adv hX c_50 1 (F2 := (30, [.int o7], [(2, .int o7)], h)) rfl ?_
  cases hF
  exact go_iret hX c_50 rfl rfl rfl hQ
theorem c_39 : mm_cd 39 = k_X3_takingCoins := rfl
def F_X3_takingCoins (h : mm_S) (x0 : Nat) (x1 : Int32) : Option Int32 :=
  (fx_gR h x0 3 1).bind fun v1 =>
  (fx_aI h v1 x1).bind fun v3 =>
  if v3 ≠ (ki 2) then
    some (kb 10)
  else
    some (ki 5)
theorem r_X3_takingCoins {X : mm_Cl} (hX : mm_mono X) {d c k : Nat} {Q : mm_Re → Prop} {h : mm_S} {x0 : Nat} {x1 : Int32} {o : Int32} (hF : F_X3_takingCoins h x0 x1 = some o) (hQ : Q (.inl (some (.int o)), h)) : mm_Run X (d + 1) 39 c k [.ref x0, .int x1] h Q := by
  unfold F_X3_takingCoins at hF
  refine mm_Run_in (by decide) (by decide) (Nat.le_of_ble_eq_true rfl) ?_
  show mm_Ex (mm_Run X d) 39 Q (0, [], [(0, .ref x0), (1, .int x1)], h) c k
  refine go_adv hX c_39 1 (F2 := (1, [.ref x0], [(0, .ref x0), (1, .int x1)], h)) rfl ?_
  obtain ⟨v1, e2, hF⟩ := mm_bind hF
  refine go_gR hX c_39 rfl e2 ?_
  refine go_adv hX c_39 1 (F2 := (5, [.int x1, .ref v1], [(0, .ref x0), (1, .int x1)], h)) rfl ?_
  obtain ⟨v3, e4, hF⟩ := mm_bind hF
  refine go_aI hX c_39 rfl e4 ?_
  refine go_adv hX c_39 1 (F2 := (7, [.int (ki 2), .int v3], [(0, .ref x0), (1, .int x1)], h)) rfl ?_
  rcases mm_ite hF with ⟨hc5, hF⟩ | ⟨hc5, hF⟩
  · refine go_ct hX 14 c_39 rfl rfl hc5 ?_
    refine go_adv hX c_39 1 (F2 := (16, [.int (kb 10)], [(0, .ref x0), (1, .int x1)], h)) rfl ?_
    cases hF
    exact go_iret hX c_39 rfl rfl rfl hQ
  · refine go_cf hX c_39 rfl (by decide) hc5 ?_
    refine go_adv hX c_39 1 (F2 := (11, [.int (ki 5)], [(0, .ref x0), (1, .int x1)], h)) rfl ?_
    refine go_to hX 16 c_39 rfl rfl ?_
    cases hF
    exact go_iret hX c_39 rfl rfl rfl hQ
theorem c_40 : mm_cd 40 = k_X3_whyNotTake := rfl
def F_X3_whyNotTake (h : mm_S) (x0 : Nat) (x1 : Int32) : Option Int64 :=
  (F_X5_isLanding h x1).bind fun v1 =>
  if v1 ≠ 0 then
    (fx_gR h x0 3 1).bind fun v4 =>
    (fx_aI h v4 x1).bind fun v6 =>
    (fx_gI h x0 3 5).bind fun v8 =>
    if v6 ≠ v8 then
      (fx_is h x0 3).bind fun _ =>
      (F_X3_whoStandsOn h x0 x1).bind fun v12 =>
      if v12 = (ki (-1)) then
        (fx_gI h x0 3 5).bind fun v15 =>
        (fx_is h x0 3).bind fun _ =>
        (F_X3_isNextTo h x0 x1 v15).bind fun v18 =>
        if v18 ≠ 0 then
          (fx_gR h x0 3 0).bind fun v21 =>
          (fx_gI h x0 3 5).bind fun v23 =>
          (fx_aR h v21 v23).bind fun v25 =>
          (fx_gI h v25 0 0).bind fun v27 =>
          (fx_is h x0 3).bind fun _ =>
          (F_X3_takingCoins h x0 x1).bind fun v30 =>
          if v30 ≤ v27 then
            some (kl 0)
          else
            (fx_gR h x0 3 0).bind fun v33 =>
            (fx_gI h x0 3 5).bind fun v35 =>
            (fx_aR h v33 v35).bind fun v37 =>
            (fx_gI h v37 0 0).bind fun v39 =>
            (F_X5_refusalFor h (kb 15) v39).bind fun v41 =>
            some v41
        else
          (fx_gI h x0 3 5).bind fun v43 =>
          (fx_is h x0 3).bind fun _ =>
          (F_X3_landingsOf h x0 v43).bind fun v46 =>
          (F_X5_refusalFor h (kb 14) v46).bind fun v48 =>
          some v48
      else
        (fx_is h x0 3).bind fun _ =>
        (F_X3_whoStandsOn h x0 x1).bind fun v51 =>
        (F_X5_refusalFor h (kb 12) v51).bind fun v53 =>
        some v53
    else
      (fx_gI h x0 3 5).bind fun v55 =>
      (F_X5_refusalFor h (kb 13) v55).bind fun v57 =>
      some v57
  else
    (F_X5_refusalFor h (ki 2) x1).bind fun v59 =>
    some v59
theorem r_X3_whyNotTake {X : mm_Cl} (hX : mm_mono X) {d c k : Nat} {Q : mm_Re → Prop} {h : mm_S} {x0 : Nat} {x1 : Int32} {o : Int64} (hF : F_X3_whyNotTake h x0 x1 = some o) (hQ : Q (.inl (some (.long o)), h)) : mm_Run X (d + 4) 40 c k [.ref x0, .int x1] h Q := by
  unfold F_X3_whyNotTake at hF
  refine mm_Run_in (by decide) (by decide) (Nat.le_of_ble_eq_true rfl) ?_
  show mm_Ex (mm_Run X (d + 3)) 40 Q (0, [], [(0, .ref x0), (1, .int x1)], h) c k
  refine go_adv hX c_40 1 (F2 := (1, [.int x1], [(0, .ref x0), (1, .int x1)], h)) rfl ?_
  obtain ⟨v1, e2, hF⟩ := mm_bind hF
  refine go_cS hX (As := [.int x1]) (rv := some (.int v1)) (h2 := h) c_40 rfl (by decide) (Nat.le_of_ble_eq_true rfl) rfl rfl (Nat.le_of_ble_eq_true rfl) (fun Q2 hQ2 => r_X5_isLanding hX (d := (d + 1)) e2 hQ2) ?_
  rcases mm_ite hF with ⟨hc3, hF⟩ | ⟨hc3, hF⟩
  · refine go_zt hX 13 c_40 rfl rfl hc3 ?_
    refine go_adv hX c_40 1 (F2 := (14, [.ref x0], [(0, .ref x0), (1, .int x1)], h)) rfl ?_
    obtain ⟨v4, e5, hF⟩ := mm_bind hF
    refine go_gR hX c_40 rfl e5 ?_
    refine go_adv hX c_40 1 (F2 := (18, [.int x1, .ref v4], [(0, .ref x0), (1, .int x1)], h)) rfl ?_
    obtain ⟨v6, e7, hF⟩ := mm_bind hF
    refine go_aI hX c_40 rfl e7 ?_
    refine go_adv hX c_40 1 (F2 := (20, [.ref x0, .int v6], [(0, .ref x0), (1, .int x1)], h)) rfl ?_
    obtain ⟨v8, e9, hF⟩ := mm_bind hF
    refine go_gI hX c_40 rfl e9 ?_
    rcases mm_ite hF with ⟨hc10, hF⟩ | ⟨hc10, hF⟩
    · refine go_ct hX 36 c_40 rfl rfl hc10 ?_
      refine go_adv hX c_40 2 (F2 := (38, [.int x1, .ref x0], [(0, .ref x0), (1, .int x1)], h)) rfl ?_
      obtain ⟨_, e11, hF⟩ := mm_bind hF
      obtain ⟨v12, e13, hF⟩ := mm_bind hF
      refine go_cV hX (As := [.int x1]) (rv := some (.int v12)) (h2 := h) (ci := 3) c_40 rfl (Nat.le_of_ble_eq_true rfl) rfl rfl e11 (by decide) (Nat.le_of_ble_eq_true rfl) (fun Q2 hQ2 => r_X3_whoStandsOn hX (d := (d + 2)) e13 hQ2) ?_
      refine go_adv hX c_40 1 (F2 := (42, [.int (ki (-1)), .int v12], [(0, .ref x0), (1, .int x1)], h)) rfl ?_
      rcases mm_ite hF with ⟨hc14, hF⟩ | ⟨hc14, hF⟩
      · refine go_ct hX 56 c_40 rfl rfl hc14 ?_
        refine go_adv hX c_40 3 (F2 := (59, [.ref x0, .int x1, .ref x0], [(0, .ref x0), (1, .int x1)], h)) rfl ?_
        obtain ⟨v15, e16, hF⟩ := mm_bind hF
        refine go_gI hX c_40 rfl e16 ?_
        obtain ⟨_, e17, hF⟩ := mm_bind hF
        obtain ⟨v18, e19, hF⟩ := mm_bind hF
        refine go_cV hX (As := [.int x1, .int v15]) (rv := some (.int v18)) (h2 := h) (ci := 3) c_40 rfl (Nat.le_of_ble_eq_true rfl) rfl rfl e17 (by decide) (Nat.le_of_ble_eq_true rfl) (fun Q2 hQ2 => r_X3_isNextTo hX (d := d) e19 hQ2) ?_
        rcases mm_ite hF with ⟨hc20, hF⟩ | ⟨hc20, hF⟩
        · refine go_zt hX 82 c_40 rfl rfl hc20 ?_
          refine go_adv hX c_40 1 (F2 := (83, [.ref x0], [(0, .ref x0), (1, .int x1)], h)) rfl ?_
          obtain ⟨v21, e22, hF⟩ := mm_bind hF
          refine go_gR hX c_40 rfl e22 ?_
          refine go_adv hX c_40 1 (F2 := (87, [.ref x0, .ref v21], [(0, .ref x0), (1, .int x1)], h)) rfl ?_
          obtain ⟨v23, e24, hF⟩ := mm_bind hF
          refine go_gI hX c_40 rfl e24 ?_
          obtain ⟨v25, e26, hF⟩ := mm_bind hF
          refine go_aR hX c_40 rfl e26 ?_
          obtain ⟨v27, e28, hF⟩ := mm_bind hF
          refine go_gI hX c_40 rfl e28 ?_
          refine go_adv hX c_40 2 (F2 := (96, [.int x1, .ref x0, .int v27], [(0, .ref x0), (1, .int x1)], h)) rfl ?_
          obtain ⟨_, e29, hF⟩ := mm_bind hF
          obtain ⟨v30, e31, hF⟩ := mm_bind hF
          refine go_cV hX (As := [.int x1]) (rv := some (.int v30)) (h2 := h) (ci := 3) c_40 rfl (Nat.le_of_ble_eq_true rfl) rfl rfl e29 (by decide) (Nat.le_of_ble_eq_true rfl) (fun Q2 hQ2 => r_X3_takingCoins hX (d := (d + 2)) e31 hQ2) ?_
          rcases mm_ite hF with ⟨hc32, hF⟩ | ⟨hc32, hF⟩
          · refine go_ct hX 120 c_40 rfl rfl hc32 ?_
            refine go_adv hX c_40 1 (F2 := (121, [.long (kl 0)], [(0, .ref x0), (1, .int x1)], h)) rfl ?_
            cases hF
            exact go_lret hX c_40 rfl rfl hQ
          · refine go_cf hX c_40 rfl (by decide) hc32 ?_
            refine go_adv hX c_40 2 (F2 := (105, [.ref x0, .int (kb 15)], [(0, .ref x0), (1, .int x1)], h)) rfl ?_
            obtain ⟨v33, e34, hF⟩ := mm_bind hF
            refine go_gR hX c_40 rfl e34 ?_
            refine go_adv hX c_40 1 (F2 := (109, [.ref x0, .ref v33, .int (kb 15)], [(0, .ref x0), (1, .int x1)], h)) rfl ?_
            obtain ⟨v35, e36, hF⟩ := mm_bind hF
            refine go_gI hX c_40 rfl e36 ?_
            obtain ⟨v37, e38, hF⟩ := mm_bind hF
            refine go_aR hX c_40 rfl e38 ?_
            obtain ⟨v39, e40, hF⟩ := mm_bind hF
            refine go_gI hX c_40 rfl e40 ?_
            obtain ⟨v41, e42, hF⟩ := mm_bind hF
            refine go_cS hX (As := [.int (kb 15), .int v39]) (rv := some (.long v41)) (h2 := h) c_40 rfl (by decide) (Nat.le_of_ble_eq_true rfl) rfl rfl (Nat.le_of_ble_eq_true rfl) (fun Q2 hQ2 => r_X5_refusalFor hX (d := (d + 2)) e42 hQ2) ?_
            cases hF
            exact go_lret hX c_40 rfl rfl hQ
        · refine go_zf hX c_40 rfl (by decide) hc20 ?_
          refine go_adv hX c_40 3 (F2 := (72, [.ref x0, .ref x0, .int (kb 14)], [(0, .ref x0), (1, .int x1)], h)) rfl ?_
          obtain ⟨v43, e44, hF⟩ := mm_bind hF
          refine go_gI hX c_40 rfl e44 ?_
          obtain ⟨_, e45, hF⟩ := mm_bind hF
          obtain ⟨v46, e47, hF⟩ := mm_bind hF
          refine go_cV hX (As := [.int v43]) (rv := some (.int v46)) (h2 := h) (ci := 3) c_40 rfl (Nat.le_of_ble_eq_true rfl) rfl rfl e45 (by decide) (Nat.le_of_ble_eq_true rfl) (fun Q2 hQ2 => r_X3_landingsOf hX (d := (d + 2)) e47 hQ2) ?_
          obtain ⟨v48, e49, hF⟩ := mm_bind hF
          refine go_cS hX (As := [.int (kb 14), .int v46]) (rv := some (.long v48)) (h2 := h) c_40 rfl (by decide) (Nat.le_of_ble_eq_true rfl) rfl rfl (Nat.le_of_ble_eq_true rfl) (fun Q2 hQ2 => r_X5_refusalFor hX (d := (d + 2)) e49 hQ2) ?_
          cases hF
          exact go_lret hX c_40 rfl rfl hQ
      · refine go_cf hX c_40 rfl (by decide) hc14 ?_
        refine go_adv hX c_40 3 (F2 := (49, [.int x1, .ref x0, .int (kb 12)], [(0, .ref x0), (1, .int x1)], h)) rfl ?_
        obtain ⟨_, e50, hF⟩ := mm_bind hF
        obtain ⟨v51, e52, hF⟩ := mm_bind hF
        refine go_cV hX (As := [.int x1]) (rv := some (.int v51)) (h2 := h) (ci := 3) c_40 rfl (Nat.le_of_ble_eq_true rfl) rfl rfl e50 (by decide) (Nat.le_of_ble_eq_true rfl) (fun Q2 hQ2 => r_X3_whoStandsOn hX (d := (d + 2)) e52 hQ2) ?_
        obtain ⟨v53, e54, hF⟩ := mm_bind hF
        refine go_cS hX (As := [.int (kb 12), .int v51]) (rv := some (.long v53)) (h2 := h) c_40 rfl (by decide) (Nat.le_of_ble_eq_true rfl) rfl rfl (Nat.le_of_ble_eq_true rfl) (fun Q2 hQ2 => r_X5_refusalFor hX (d := (d + 2)) e54 hQ2) ?_
        cases hF
        exact go_lret hX c_40 rfl rfl hQ
    · refine go_cf hX c_40 rfl (by decide) hc10 ?_
      refine go_adv hX c_40 2 (F2 := (29, [.ref x0, .int (kb 13)], [(0, .ref x0), (1, .int x1)], h)) rfl ?_
      obtain ⟨v55, e56, hF⟩ := mm_bind hF
      refine go_gI hX c_40 rfl e56 ?_
      obtain ⟨v57, e58, hF⟩ := mm_bind hF
      refine go_cS hX (As := [.int (kb 13), .int v55]) (rv := some (.long v57)) (h2 := h) c_40 rfl (by decide) (Nat.le_of_ble_eq_true rfl) rfl rfl (Nat.le_of_ble_eq_true rfl) (fun Q2 hQ2 => r_X5_refusalFor hX (d := (d + 2)) e58 hQ2) ?_
      cases hF
      exact go_lret hX c_40 rfl rfl hQ
  · refine go_zf hX c_40 rfl (by decide) hc3 ?_
    refine go_adv hX c_40 2 (F2 := (9, [.int x1, .int (ki 2)], [(0, .ref x0), (1, .int x1)], h)) rfl ?_
    obtain ⟨v59, e60, hF⟩ := mm_bind hF
    refine go_cS hX (As := [.int (ki 2), .int x1]) (rv := some (.long v59)) (h2 := h) c_40 rfl (by decide) (Nat.le_of_ble_eq_true rfl) rfl rfl (Nat.le_of_ble_eq_true rfl) (fun Q2 hQ2 => r_X5_refusalFor hX (d := (d + 2)) e60 hQ2) ?_
    cases hF
    exact go_lret hX c_40 rfl rfl hQ
theorem c_42 : mm_cd 42 = k_X3_whyNotFree := rfl
def F_X3_whyNotFree (h : mm_S) (x0 : Nat) (x1 : Int32) (x2 : Int32) : Option Int64 :=
  (F_X5_isGiant h x1).bind fun v1 =>
  if v1 ≠ 0 then
    (F_X5_isLanding h x2).bind fun v4 =>
    if v4 ≠ 0 then
      (fx_gR h x0 3 1).bind fun v7 =>
      (fx_aI h v7 x2).bind fun v9 =>
      if v9 = x1 then
        (fx_is h x0 3).bind fun _ =>
        (F_X3_whoStandsOn h x0 x2).bind fun v13 =>
        if v13 = (ki (-1)) then
          some (kl 0)
        else
          (fx_is h x0 3).bind fun _ =>
          (F_X3_whoStandsOn h x0 x2).bind fun v17 =>
          (F_X5_refusalFor h (kb 12) v17).bind fun v19 =>
          some v19
      else
        (fx_gR h x0 3 1).bind fun v21 =>
        (fx_aI h v21 x2).bind fun v23 =>
        (F_X5_refusalFor h (kb 13) v23).bind fun v25 =>
        some v25
    else
      (F_X5_refusalFor h (ki 2) x2).bind fun v27 =>
      some v27
  else
    (F_X5_refusalFor h (ki 2) x1).bind fun v29 =>
    some v29
theorem r_X3_whyNotFree {X : mm_Cl} (hX : mm_mono X) {d c k : Nat} {Q : mm_Re → Prop} {h : mm_S} {x0 : Nat} {x1 : Int32} {x2 : Int32} {o : Int64} (hF : F_X3_whyNotFree h x0 x1 x2 = some o) (hQ : Q (.inl (some (.long o)), h)) : mm_Run X (d + 3) 42 c k [.ref x0, .int x1, .int x2] h Q := by
  unfold F_X3_whyNotFree at hF
  refine mm_Run_in (by decide) (by decide) (Nat.le_of_ble_eq_true rfl) ?_
  show mm_Ex (mm_Run X (d + 2)) 42 Q (0, [], [(0, .ref x0), (1, .int x1), (2, .int x2)], h) c k
  refine go_adv hX c_42 1 (F2 := (1, [.int x1], [(0, .ref x0), (1, .int x1), (2, .int x2)], h)) rfl ?_
  obtain ⟨v1, e2, hF⟩ := mm_bind hF
  refine go_cS hX (As := [.int x1]) (rv := some (.int v1)) (h2 := h) c_42 rfl (by decide) (Nat.le_of_ble_eq_true rfl) rfl rfl (Nat.le_of_ble_eq_true rfl) (fun Q2 hQ2 => r_X5_isGiant hX (d := d) e2 hQ2) ?_
  rcases mm_ite hF with ⟨hc3, hF⟩ | ⟨hc3, hF⟩
  · refine go_zt hX 13 c_42 rfl rfl hc3 ?_
    refine go_adv hX c_42 1 (F2 := (14, [.int x2], [(0, .ref x0), (1, .int x1), (2, .int x2)], h)) rfl ?_
    obtain ⟨v4, e5, hF⟩ := mm_bind hF
    refine go_cS hX (As := [.int x2]) (rv := some (.int v4)) (h2 := h) c_42 rfl (by decide) (Nat.le_of_ble_eq_true rfl) rfl rfl (Nat.le_of_ble_eq_true rfl) (fun Q2 hQ2 => r_X5_isLanding hX (d := d) e5 hQ2) ?_
    rcases mm_ite hF with ⟨hc6, hF⟩ | ⟨hc6, hF⟩
    · refine go_zt hX 26 c_42 rfl rfl hc6 ?_
      refine go_adv hX c_42 1 (F2 := (27, [.ref x0], [(0, .ref x0), (1, .int x1), (2, .int x2)], h)) rfl ?_
      obtain ⟨v7, e8, hF⟩ := mm_bind hF
      refine go_gR hX c_42 rfl e8 ?_
      refine go_adv hX c_42 1 (F2 := (31, [.int x2, .ref v7], [(0, .ref x0), (1, .int x1), (2, .int x2)], h)) rfl ?_
      obtain ⟨v9, e10, hF⟩ := mm_bind hF
      refine go_aI hX c_42 rfl e10 ?_
      refine go_adv hX c_42 1 (F2 := (33, [.int x1, .int v9], [(0, .ref x0), (1, .int x1), (2, .int x2)], h)) rfl ?_
      rcases mm_ite hF with ⟨hc11, hF⟩ | ⟨hc11, hF⟩
      · refine go_ct hX 48 c_42 rfl rfl hc11 ?_
        refine go_adv hX c_42 2 (F2 := (50, [.int x2, .ref x0], [(0, .ref x0), (1, .int x1), (2, .int x2)], h)) rfl ?_
        obtain ⟨_, e12, hF⟩ := mm_bind hF
        obtain ⟨v13, e14, hF⟩ := mm_bind hF
        refine go_cV hX (As := [.int x2]) (rv := some (.int v13)) (h2 := h) (ci := 3) c_42 rfl (Nat.le_of_ble_eq_true rfl) rfl rfl e12 (by decide) (Nat.le_of_ble_eq_true rfl) (fun Q2 hQ2 => r_X3_whoStandsOn hX (d := (d + 1)) e14 hQ2) ?_
        refine go_adv hX c_42 1 (F2 := (54, [.int (ki (-1)), .int v13], [(0, .ref x0), (1, .int x1), (2, .int x2)], h)) rfl ?_
        rcases mm_ite hF with ⟨hc15, hF⟩ | ⟨hc15, hF⟩
        · refine go_ct hX 68 c_42 rfl rfl hc15 ?_
          refine go_adv hX c_42 1 (F2 := (69, [.long (kl 0)], [(0, .ref x0), (1, .int x1), (2, .int x2)], h)) rfl ?_
          cases hF
          exact go_lret hX c_42 rfl rfl hQ
        · refine go_cf hX c_42 rfl (by decide) hc15 ?_
          refine go_adv hX c_42 3 (F2 := (61, [.int x2, .ref x0, .int (kb 12)], [(0, .ref x0), (1, .int x1), (2, .int x2)], h)) rfl ?_
          obtain ⟨_, e16, hF⟩ := mm_bind hF
          obtain ⟨v17, e18, hF⟩ := mm_bind hF
          refine go_cV hX (As := [.int x2]) (rv := some (.int v17)) (h2 := h) (ci := 3) c_42 rfl (Nat.le_of_ble_eq_true rfl) rfl rfl e16 (by decide) (Nat.le_of_ble_eq_true rfl) (fun Q2 hQ2 => r_X3_whoStandsOn hX (d := (d + 1)) e18 hQ2) ?_
          obtain ⟨v19, e20, hF⟩ := mm_bind hF
          refine go_cS hX (As := [.int (kb 12), .int v17]) (rv := some (.long v19)) (h2 := h) c_42 rfl (by decide) (Nat.le_of_ble_eq_true rfl) rfl rfl (Nat.le_of_ble_eq_true rfl) (fun Q2 hQ2 => r_X5_refusalFor hX (d := (d + 1)) e20 hQ2) ?_
          cases hF
          exact go_lret hX c_42 rfl rfl hQ
      · refine go_cf hX c_42 rfl (by decide) hc11 ?_
        refine go_adv hX c_42 2 (F2 := (39, [.ref x0, .int (kb 13)], [(0, .ref x0), (1, .int x1), (2, .int x2)], h)) rfl ?_
        obtain ⟨v21, e22, hF⟩ := mm_bind hF
        refine go_gR hX c_42 rfl e22 ?_
        refine go_adv hX c_42 1 (F2 := (43, [.int x2, .ref v21, .int (kb 13)], [(0, .ref x0), (1, .int x1), (2, .int x2)], h)) rfl ?_
        obtain ⟨v23, e24, hF⟩ := mm_bind hF
        refine go_aI hX c_42 rfl e24 ?_
        obtain ⟨v25, e26, hF⟩ := mm_bind hF
        refine go_cS hX (As := [.int (kb 13), .int v23]) (rv := some (.long v25)) (h2 := h) c_42 rfl (by decide) (Nat.le_of_ble_eq_true rfl) rfl rfl (Nat.le_of_ble_eq_true rfl) (fun Q2 hQ2 => r_X5_refusalFor hX (d := (d + 1)) e26 hQ2) ?_
        cases hF
        exact go_lret hX c_42 rfl rfl hQ
    · refine go_zf hX c_42 rfl (by decide) hc6 ?_
      refine go_adv hX c_42 2 (F2 := (22, [.int x2, .int (ki 2)], [(0, .ref x0), (1, .int x1), (2, .int x2)], h)) rfl ?_
      obtain ⟨v27, e28, hF⟩ := mm_bind hF
      refine go_cS hX (As := [.int (ki 2), .int x2]) (rv := some (.long v27)) (h2 := h) c_42 rfl (by decide) (Nat.le_of_ble_eq_true rfl) rfl rfl (Nat.le_of_ble_eq_true rfl) (fun Q2 hQ2 => r_X5_refusalFor hX (d := (d + 1)) e28 hQ2) ?_
      cases hF
      exact go_lret hX c_42 rfl rfl hQ
  · refine go_zf hX c_42 rfl (by decide) hc3 ?_
    refine go_adv hX c_42 2 (F2 := (9, [.int x1, .int (ki 2)], [(0, .ref x0), (1, .int x1), (2, .int x2)], h)) rfl ?_
    obtain ⟨v29, e30, hF⟩ := mm_bind hF
    refine go_cS hX (As := [.int (ki 2), .int x1]) (rv := some (.long v29)) (h2 := h) c_42 rfl (by decide) (Nat.le_of_ble_eq_true rfl) rfl rfl (Nat.le_of_ble_eq_true rfl) (fun Q2 hQ2 => r_X5_refusalFor hX (d := (d + 1)) e30 hQ2) ?_
    cases hF
    exact go_lret hX c_42 rfl rfl hQ
theorem c_9 : mm_cd 9 = k_X1_whyNotDo := rfl
def F_X1_whyNotDo (h : mm_S) (x0 : Nat) (x1 : Int32) (x2 : Nat) : Option Int64 :=
  (fx_gR h x0 1 2).bind fun v1 =>
  (fx_aR h v1 x1).bind fun v3 =>
  (fx_gR h x0 1 1).bind fun v5 =>
  (fx_aI h v5 x1).bind fun v7 =>
  if v7 = nI 0 then
    (fx_aI h v3 (ki 0)).bind fun v10 =>
    (fx_aI h v3 (ki 1)).bind fun v12 =>
    (fx_aI h v3 (ki 2)).bind fun v14 =>
    (fx_is h x2 3).bind fun _ =>
    (F_X3_whyNotBuild h x2 v10 v12 v14).bind fun v17 =>
    some v17
  else if v7 = nI 1 then
    (fx_aI h v3 (ki 0)).bind fun v20 =>
    (fx_is h x2 3).bind fun _ =>
    (F_X3_whyNotTear h x2 v20).bind fun v23 =>
    some v23
  else if v7 = nI 2 then
    (fx_aI h v3 (ki 0)).bind fun v26 =>
    (fx_is h x2 3).bind fun _ =>
    (F_X3_whyNotHalve h x2 v26).bind fun v29 =>
    some v29
  else if v7 = nI 3 then
    (fx_aI h v3 (ki 0)).bind fun v32 =>
    (fx_aI h v3 (ki 1)).bind fun v34 =>
    (fx_aI h v3 (ki 2)).bind fun v36 =>
    (fx_is h x2 3).bind fun _ =>
    (F_X3_whyNotLease h x2 v32 v34 v36).bind fun v39 =>
    some v39
  else if v7 = nI 4 then
    (fx_aI h v3 (ki 0)).bind fun v42 =>
    (fx_aI h v3 (ki 1)).bind fun v44 =>
    (fx_is h x2 3).bind fun _ =>
    (F_X3_whyNotClimb h x2 v42 v44).bind fun v47 =>
    some v47
  else if v7 = nI 5 then
    (fx_aI h v3 (ki 0)).bind fun v50 =>
    (fx_aI h v3 (ki 1)).bind fun v52 =>
    (fx_is h x2 3).bind fun _ =>
    (F_X3_whyNotLevy h x2 v50 v52).bind fun v55 =>
    some v55
  else if v7 = nI 6 then
    (fx_aI h v3 (ki 0)).bind fun v58 =>
    (fx_is h x2 3).bind fun _ =>
    (F_X3_whyNotTake h x2 v58).bind fun v61 =>
    some v61
  else if v7 = nI 7 then
    (fx_aI h v3 (ki 0)).bind fun v64 =>
    (fx_aI h v3 (ki 1)).bind fun v66 =>
    (fx_is h x2 3).bind fun _ =>
    (F_X3_whyNotFree h x2 v64 v66).bind fun v69 =>
    some v69
  else
    some (kl 0)
theorem r_X1_whyNotDo {X : mm_Cl} (hX : mm_mono X) {d c k : Nat} {Q : mm_Re → Prop} {h : mm_S} {x0 : Nat} {x1 : Int32} {x2 : Nat} {o : Int64} (hF : F_X1_whyNotDo h x0 x1 x2 = some o) (hQ : Q (.inl (some (.long o)), h)) : mm_Run X (d + 5) 9 c k [.ref x0, .int x1, .ref x2] h Q := by
  unfold F_X1_whyNotDo at hF
  refine mm_Run_in (by decide) (by decide) (Nat.le_of_ble_eq_true rfl) ?_
  show mm_Ex (mm_Run X (d + 4)) 9 Q (0, [], [(0, .ref x0), (1, .int x1), (2, .ref x2)], h) c k
  refine go_adv hX c_9 1 (F2 := (1, [.ref x0], [(0, .ref x0), (1, .int x1), (2, .ref x2)], h)) rfl ?_
  obtain ⟨v1, e2, hF⟩ := mm_bind hF
  refine go_gR hX c_9 rfl e2 ?_
  refine go_adv hX c_9 1 (F2 := (5, [.int x1, .ref v1], [(0, .ref x0), (1, .int x1), (2, .ref x2)], h)) rfl ?_
  obtain ⟨v3, e4, hF⟩ := mm_bind hF
  refine go_aR hX c_9 rfl e4 ?_
  refine go_adv hX c_9 2 (F2 := (8, [.ref x0], [(3, .ref v3), (0, .ref x0), (1, .int x1), (2, .ref x2)], h)) rfl ?_
  obtain ⟨v5, e6, hF⟩ := mm_bind hF
  refine go_gR hX c_9 rfl e6 ?_
  refine go_adv hX c_9 1 (F2 := (12, [.int x1, .ref v5], [(3, .ref v3), (0, .ref x0), (1, .int x1), (2, .ref x2)], h)) rfl ?_
  obtain ⟨v7, e8, hF⟩ := mm_bind hF
  refine go_aI hX c_9 rfl e8 ?_
  rcases mm_ite hF with ⟨hc9, hF⟩ | ⟨hc9, hF⟩
  · refine go_sw hX 60 c_9 rfl hc9 (by decide) (by decide +kernel) ?_
    refine go_adv hX c_9 3 (F2 := (63, [.int (ki 0), .ref v3, .ref x2], [(3, .ref v3), (0, .ref x0), (1, .int x1), (2, .ref x2)], h)) rfl ?_
    obtain ⟨v10, e11, hF⟩ := mm_bind hF
    refine go_aI hX c_9 rfl e11 ?_
    refine go_adv hX c_9 2 (F2 := (66, [.int (ki 1), .ref v3, .int v10, .ref x2], [(3, .ref v3), (0, .ref x0), (1, .int x1), (2, .ref x2)], h)) rfl ?_
    obtain ⟨v12, e13, hF⟩ := mm_bind hF
    refine go_aI hX c_9 rfl e13 ?_
    refine go_adv hX c_9 2 (F2 := (69, [.int (ki 2), .ref v3, .int v12, .int v10, .ref x2], [(3, .ref v3), (0, .ref x0), (1, .int x1), (2, .ref x2)], h)) rfl ?_
    obtain ⟨v14, e15, hF⟩ := mm_bind hF
    refine go_aI hX c_9 rfl e15 ?_
    obtain ⟨_, e16, hF⟩ := mm_bind hF
    obtain ⟨v17, e18, hF⟩ := mm_bind hF
    refine go_cV hX (As := [.int v10, .int v12, .int v14]) (rv := some (.long v17)) (h2 := h) (ci := 3) c_9 rfl (Nat.le_of_ble_eq_true rfl) rfl rfl e16 (by decide) (Nat.le_of_ble_eq_true rfl) (fun Q2 hQ2 => r_X3_whyNotBuild hX (d := (d + 1)) e18 hQ2) ?_
    cases hF
    exact go_lret hX c_9 rfl rfl hQ
  rcases mm_ite hF with ⟨hc19, hF⟩ | ⟨hc19, hF⟩
  · refine go_sw hX 74 c_9 rfl hc19 (by decide) (by decide +kernel) ?_
    refine go_adv hX c_9 3 (F2 := (77, [.int (ki 0), .ref v3, .ref x2], [(3, .ref v3), (0, .ref x0), (1, .int x1), (2, .ref x2)], h)) rfl ?_
    obtain ⟨v20, e21, hF⟩ := mm_bind hF
    refine go_aI hX c_9 rfl e21 ?_
    obtain ⟨_, e22, hF⟩ := mm_bind hF
    obtain ⟨v23, e24, hF⟩ := mm_bind hF
    refine go_cV hX (As := [.int v20]) (rv := some (.long v23)) (h2 := h) (ci := 3) c_9 rfl (Nat.le_of_ble_eq_true rfl) rfl rfl e22 (by decide) (Nat.le_of_ble_eq_true rfl) (fun Q2 hQ2 => r_X3_whyNotTear hX (d := (d + 1)) e24 hQ2) ?_
    cases hF
    exact go_lret hX c_9 rfl rfl hQ
  rcases mm_ite hF with ⟨hc25, hF⟩ | ⟨hc25, hF⟩
  · refine go_sw hX 82 c_9 rfl hc25 (by decide) (by decide +kernel) ?_
    refine go_adv hX c_9 3 (F2 := (85, [.int (ki 0), .ref v3, .ref x2], [(3, .ref v3), (0, .ref x0), (1, .int x1), (2, .ref x2)], h)) rfl ?_
    obtain ⟨v26, e27, hF⟩ := mm_bind hF
    refine go_aI hX c_9 rfl e27 ?_
    obtain ⟨_, e28, hF⟩ := mm_bind hF
    obtain ⟨v29, e30, hF⟩ := mm_bind hF
    refine go_cV hX (As := [.int v26]) (rv := some (.long v29)) (h2 := h) (ci := 3) c_9 rfl (Nat.le_of_ble_eq_true rfl) rfl rfl e28 (by decide) (Nat.le_of_ble_eq_true rfl) (fun Q2 hQ2 => r_X3_whyNotHalve hX (d := (d + 1)) e30 hQ2) ?_
    cases hF
    exact go_lret hX c_9 rfl rfl hQ
  rcases mm_ite hF with ⟨hc31, hF⟩ | ⟨hc31, hF⟩
  · refine go_sw hX 90 c_9 rfl hc31 (by decide) (by decide +kernel) ?_
    refine go_adv hX c_9 3 (F2 := (93, [.int (ki 0), .ref v3, .ref x2], [(3, .ref v3), (0, .ref x0), (1, .int x1), (2, .ref x2)], h)) rfl ?_
    obtain ⟨v32, e33, hF⟩ := mm_bind hF
    refine go_aI hX c_9 rfl e33 ?_
    refine go_adv hX c_9 2 (F2 := (96, [.int (ki 1), .ref v3, .int v32, .ref x2], [(3, .ref v3), (0, .ref x0), (1, .int x1), (2, .ref x2)], h)) rfl ?_
    obtain ⟨v34, e35, hF⟩ := mm_bind hF
    refine go_aI hX c_9 rfl e35 ?_
    refine go_adv hX c_9 2 (F2 := (99, [.int (ki 2), .ref v3, .int v34, .int v32, .ref x2], [(3, .ref v3), (0, .ref x0), (1, .int x1), (2, .ref x2)], h)) rfl ?_
    obtain ⟨v36, e37, hF⟩ := mm_bind hF
    refine go_aI hX c_9 rfl e37 ?_
    obtain ⟨_, e38, hF⟩ := mm_bind hF
    obtain ⟨v39, e40, hF⟩ := mm_bind hF
    refine go_cV hX (As := [.int v32, .int v34, .int v36]) (rv := some (.long v39)) (h2 := h) (ci := 3) c_9 rfl (Nat.le_of_ble_eq_true rfl) rfl rfl e38 (by decide) (Nat.le_of_ble_eq_true rfl) (fun Q2 hQ2 => r_X3_whyNotLease hX (d := d) e40 hQ2) ?_
    cases hF
    exact go_lret hX c_9 rfl rfl hQ
  rcases mm_ite hF with ⟨hc41, hF⟩ | ⟨hc41, hF⟩
  · refine go_sw hX 104 c_9 rfl hc41 (by decide) (by decide +kernel) ?_
    refine go_adv hX c_9 3 (F2 := (107, [.int (ki 0), .ref v3, .ref x2], [(3, .ref v3), (0, .ref x0), (1, .int x1), (2, .ref x2)], h)) rfl ?_
    obtain ⟨v42, e43, hF⟩ := mm_bind hF
    refine go_aI hX c_9 rfl e43 ?_
    refine go_adv hX c_9 2 (F2 := (110, [.int (ki 1), .ref v3, .int v42, .ref x2], [(3, .ref v3), (0, .ref x0), (1, .int x1), (2, .ref x2)], h)) rfl ?_
    obtain ⟨v44, e45, hF⟩ := mm_bind hF
    refine go_aI hX c_9 rfl e45 ?_
    obtain ⟨_, e46, hF⟩ := mm_bind hF
    obtain ⟨v47, e48, hF⟩ := mm_bind hF
    refine go_cV hX (As := [.int v42, .int v44]) (rv := some (.long v47)) (h2 := h) (ci := 3) c_9 rfl (Nat.le_of_ble_eq_true rfl) rfl rfl e46 (by decide) (Nat.le_of_ble_eq_true rfl) (fun Q2 hQ2 => r_X3_whyNotClimb hX (d := d) e48 hQ2) ?_
    cases hF
    exact go_lret hX c_9 rfl rfl hQ
  rcases mm_ite hF with ⟨hc49, hF⟩ | ⟨hc49, hF⟩
  · refine go_sw hX 115 c_9 rfl hc49 (by decide) (by decide +kernel) ?_
    refine go_adv hX c_9 3 (F2 := (118, [.int (ki 0), .ref v3, .ref x2], [(3, .ref v3), (0, .ref x0), (1, .int x1), (2, .ref x2)], h)) rfl ?_
    obtain ⟨v50, e51, hF⟩ := mm_bind hF
    refine go_aI hX c_9 rfl e51 ?_
    refine go_adv hX c_9 2 (F2 := (121, [.int (ki 1), .ref v3, .int v50, .ref x2], [(3, .ref v3), (0, .ref x0), (1, .int x1), (2, .ref x2)], h)) rfl ?_
    obtain ⟨v52, e53, hF⟩ := mm_bind hF
    refine go_aI hX c_9 rfl e53 ?_
    obtain ⟨_, e54, hF⟩ := mm_bind hF
    obtain ⟨v55, e56, hF⟩ := mm_bind hF
    refine go_cV hX (As := [.int v50, .int v52]) (rv := some (.long v55)) (h2 := h) (ci := 3) c_9 rfl (Nat.le_of_ble_eq_true rfl) rfl rfl e54 (by decide) (Nat.le_of_ble_eq_true rfl) (fun Q2 hQ2 => r_X3_whyNotLevy hX (d := d) e56 hQ2) ?_
    cases hF
    exact go_lret hX c_9 rfl rfl hQ
  rcases mm_ite hF with ⟨hc57, hF⟩ | ⟨hc57, hF⟩
  · refine go_sw hX 126 c_9 rfl hc57 (by decide) (by decide +kernel) ?_
    refine go_adv hX c_9 3 (F2 := (129, [.int (ki 0), .ref v3, .ref x2], [(3, .ref v3), (0, .ref x0), (1, .int x1), (2, .ref x2)], h)) rfl ?_
    obtain ⟨v58, e59, hF⟩ := mm_bind hF
    refine go_aI hX c_9 rfl e59 ?_
    obtain ⟨_, e60, hF⟩ := mm_bind hF
    obtain ⟨v61, e62, hF⟩ := mm_bind hF
    refine go_cV hX (As := [.int v58]) (rv := some (.long v61)) (h2 := h) (ci := 3) c_9 rfl (Nat.le_of_ble_eq_true rfl) rfl rfl e60 (by decide) (Nat.le_of_ble_eq_true rfl) (fun Q2 hQ2 => r_X3_whyNotTake hX (d := d) e62 hQ2) ?_
    cases hF
    exact go_lret hX c_9 rfl rfl hQ
  rcases mm_ite hF with ⟨hc63, hF⟩ | ⟨hc63, hF⟩
  · refine go_sw hX 134 c_9 rfl hc63 (by decide) (by decide +kernel) ?_
    refine go_adv hX c_9 3 (F2 := (137, [.int (ki 0), .ref v3, .ref x2], [(3, .ref v3), (0, .ref x0), (1, .int x1), (2, .ref x2)], h)) rfl ?_
    obtain ⟨v64, e65, hF⟩ := mm_bind hF
    refine go_aI hX c_9 rfl e65 ?_
    refine go_adv hX c_9 2 (F2 := (140, [.int (ki 1), .ref v3, .int v64, .ref x2], [(3, .ref v3), (0, .ref x0), (1, .int x1), (2, .ref x2)], h)) rfl ?_
    obtain ⟨v66, e67, hF⟩ := mm_bind hF
    refine go_aI hX c_9 rfl e67 ?_
    obtain ⟨_, e68, hF⟩ := mm_bind hF
    obtain ⟨v69, e70, hF⟩ := mm_bind hF
    refine go_cV hX (As := [.int v64, .int v66]) (rv := some (.long v69)) (h2 := h) (ci := 3) c_9 rfl (Nat.le_of_ble_eq_true rfl) rfl rfl e68 (by decide) (Nat.le_of_ble_eq_true rfl) (fun Q2 hQ2 => r_X3_whyNotFree hX (d := (d + 1)) e70 hQ2) ?_
    cases hF
    exact go_lret hX c_9 rfl rfl hQ
  refine go_swd hX 8 145 c_9 rfl (by decide) rfl (by decide) (fun i hi => match i, hi with | 0, _ => hc9 | 1, _ => hc19 | 2, _ => hc25 | 3, _ => hc31 | 4, _ => hc41 | 5, _ => hc49 | 6, _ => hc57 | 7, _ => hc63 | j + 8, hj => absurd hj (by omega)) (by decide) ?_
  refine go_adv hX c_9 1 (F2 := (146, [.long (kl 0)], [(3, .ref v3), (0, .ref x0), (1, .int x1), (2, .ref x2)], h)) rfl ?_
  cases hF
  exact go_lret hX c_9 rfl rfl hQ
theorem c_14 : mm_cd 14 = k_X2_endLease := rfl
def F_X2_endLease (h : mm_S) (x0 : Nat) : Option mm_S :=
  (fx_pV h x0 2 5 (.int (ki (-1)))).bind fun h1 =>
  (fx_pV h1 x0 2 6 (.int (ki 0))).bind fun h3 =>
  some h3
theorem r_X2_endLease {X : mm_Cl} (hX : mm_mono X) {d c k : Nat} {Q : mm_Re → Prop} {h : mm_S} {x0 : Nat} {o : mm_S} (hF : F_X2_endLease h x0 = some o) (hQ : Q (.inl none, o)) : mm_Run X (d + 1) 14 c k [.ref x0] h Q := by
  unfold F_X2_endLease at hF
  refine mm_Run_in (by decide) (by decide) (Nat.le_of_ble_eq_true rfl) ?_
  show mm_Ex (mm_Run X d) 14 Q (0, [], [(0, .ref x0)], h) c k
  refine go_adv hX c_14 2 (F2 := (2, [.int (ki (-1)), .ref x0], [(0, .ref x0)], h)) rfl ?_
  obtain ⟨h1, e2, hF⟩ := mm_bind hF
  refine go_pV hX c_14 rfl e2 ?_
  refine go_adv hX c_14 2 (F2 := (7, [.int (ki 0), .ref x0], [(0, .ref x0)], h1)) rfl ?_
  obtain ⟨h3, e4, hF⟩ := mm_bind hF
  refine go_pV hX c_14 rfl e4 ?_
  cases hF
  exact go_ret hX c_14 rfl rfl hQ
theorem c_13 : mm_cd 13 = k_X2_startAnew := rfl
def F_X2_startAnew (h : mm_S) (x0 : Nat) (x1 : Int32) (x2 : Int32) (x3 : Int32) : Option mm_S :=
  (fx_pV h x0 2 0 (.int (if x2 < x1 then x2 else x1))).bind fun h1 =>
  (fx_pV h1 x0 2 1 (.int (if x1 < x2 then x2 else x1))).bind fun h3 =>
  (fx_pV h3 x0 2 2 (.int x3)).bind fun h5 =>
  (fx_pV h5 x0 2 3 (.int (ki 0))).bind fun h7 =>
  (fx_pV h7 x0 2 4 (.int (ki 0))).bind fun h9 =>
  (fx_is h9 x0 2).bind fun _ =>
  (F_X2_endLease h9 x0).bind fun v12 =>
  some v12
theorem r_X2_startAnew {X : mm_Cl} (hX : mm_mono X) {d c k : Nat} {Q : mm_Re → Prop} {h : mm_S} {x0 : Nat} {x1 : Int32} {x2 : Int32} {x3 : Int32} {o : mm_S} (hF : F_X2_startAnew h x0 x1 x2 x3 = some o) (hQ : Q (.inl none, o)) : mm_Run X (d + 2) 13 c k [.ref x0, .int x1, .int x2, .int x3] h Q := by
  unfold F_X2_startAnew at hF
  refine mm_Run_in (by decide) (by decide) (Nat.le_of_ble_eq_true rfl) ?_
  show mm_Ex (mm_Run X (d + 1)) 13 Q (0, [], [(0, .ref x0), (1, .int x1), (2, .int x2), (3, .int x3)], h) c k
  refine go_adv hX c_13 3 (F2 := (3, [.int x2, .int x1, .ref x0], [(0, .ref x0), (1, .int x1), (2, .int x2), (3, .int x3)], h)) rfl ?_
  refine go_min hX c_13 rfl (Nat.le_of_ble_eq_true rfl) ?_
  obtain ⟨h1, e2, hF⟩ := mm_bind hF
  refine go_pV hX c_13 rfl e2 ?_
  refine go_adv hX c_13 3 (F2 := (12, [.int x2, .int x1, .ref x0], [(0, .ref x0), (1, .int x1), (2, .int x2), (3, .int x3)], h1)) rfl ?_
  refine go_max hX c_13 rfl (Nat.le_of_ble_eq_true rfl) ?_
  obtain ⟨h3, e4, hF⟩ := mm_bind hF
  refine go_pV hX c_13 rfl e4 ?_
  refine go_adv hX c_13 2 (F2 := (20, [.int x3, .ref x0], [(0, .ref x0), (1, .int x1), (2, .int x2), (3, .int x3)], h3)) rfl ?_
  obtain ⟨h5, e6, hF⟩ := mm_bind hF
  refine go_pV hX c_13 rfl e6 ?_
  refine go_adv hX c_13 2 (F2 := (25, [.int (ki 0), .ref x0], [(0, .ref x0), (1, .int x1), (2, .int x2), (3, .int x3)], h5)) rfl ?_
  obtain ⟨h7, e8, hF⟩ := mm_bind hF
  refine go_pV hX c_13 rfl e8 ?_
  refine go_adv hX c_13 2 (F2 := (30, [.int (ki 0), .ref x0], [(0, .ref x0), (1, .int x1), (2, .int x2), (3, .int x3)], h7)) rfl ?_
  obtain ⟨h9, e10, hF⟩ := mm_bind hF
  refine go_pV hX c_13 rfl e10 ?_
  refine go_adv hX c_13 1 (F2 := (34, [.ref x0], [(0, .ref x0), (1, .int x1), (2, .int x2), (3, .int x3)], h9)) rfl ?_
  obtain ⟨_, e11, hF⟩ := mm_bind hF
  obtain ⟨v12, e13, hF⟩ := mm_bind hF
  refine go_cV hX (As := []) (rv := none) (h2 := v12) (ci := 2) c_13 rfl (Nat.le_of_ble_eq_true rfl) rfl rfl e11 (by decide) (Nat.le_of_ble_eq_true rfl) (fun Q2 hQ2 => r_X2_endLease hX (d := d) e13 hQ2) ?_
  cases hF
  exact go_ret hX c_13 rfl rfl hQ
theorem c_26 : mm_cd 26 = k_X3_addStair := rfl
def F_X3_addStair (h : mm_S) (x0 : Nat) (x1 : Int32) (x2 : Int32) (x3 : Int32) : Option (Int32 × mm_S) :=
  (fx_gI h x0 3 3).bind fun v1 =>
  (fx_gR h x0 3 2).bind fun v3 =>
  (fx_aR h v3 v1).bind fun v5 =>
  (fx_is h v5 2).bind fun _ =>
  (F_X2_startAnew h v5 x1 x2 x3).bind fun v8 =>
  (fx_gI v8 x0 3 3).bind fun v10 =>
  (fx_pV v8 x0 3 3 (.int (v10 + (ki 1)))).bind fun h12 =>
  some (v1, h12)
theorem r_X3_addStair {X : mm_Cl} (hX : mm_mono X) {d c k : Nat} {Q : mm_Re → Prop} {h : mm_S} {x0 : Nat} {x1 : Int32} {x2 : Int32} {x3 : Int32} {o : (Int32 × mm_S)} (hF : F_X3_addStair h x0 x1 x2 x3 = some o) (hQ : Q (.inl (some (.int o.1)), o.2)) : mm_Run X (d + 3) 26 c k [.ref x0, .int x1, .int x2, .int x3] h Q := by
  unfold F_X3_addStair at hF
  refine mm_Run_in (by decide) (by decide) (Nat.le_of_ble_eq_true rfl) ?_
  show mm_Ex (mm_Run X (d + 2)) 26 Q (0, [], [(0, .ref x0), (1, .int x1), (2, .int x2), (3, .int x3)], h) c k
  refine go_adv hX c_26 1 (F2 := (1, [.ref x0], [(0, .ref x0), (1, .int x1), (2, .int x2), (3, .int x3)], h)) rfl ?_
  obtain ⟨v1, e2, hF⟩ := mm_bind hF
  refine go_gI hX c_26 rfl e2 ?_
  refine go_adv hX c_26 2 (F2 := (7, [.ref x0], [(4, .int v1), (0, .ref x0), (1, .int x1), (2, .int x2), (3, .int x3)], h)) rfl ?_
  obtain ⟨v3, e4, hF⟩ := mm_bind hF
  refine go_gR hX c_26 rfl e4 ?_
  refine go_adv hX c_26 1 (F2 := (12, [.int v1, .ref v3], [(4, .int v1), (0, .ref x0), (1, .int x1), (2, .int x2), (3, .int x3)], h)) rfl ?_
  obtain ⟨v5, e6, hF⟩ := mm_bind hF
  refine go_aR hX c_26 rfl e6 ?_
  refine go_adv hX c_26 3 (F2 := (16, [.int x3, .int x2, .int x1, .ref v5], [(4, .int v1), (0, .ref x0), (1, .int x1), (2, .int x2), (3, .int x3)], h)) rfl ?_
  obtain ⟨_, e7, hF⟩ := mm_bind hF
  obtain ⟨v8, e9, hF⟩ := mm_bind hF
  refine go_cV hX (As := [.int x1, .int x2, .int x3]) (rv := none) (h2 := v8) (ci := 2) c_26 rfl (Nat.le_of_ble_eq_true rfl) rfl rfl e7 (by decide) (Nat.le_of_ble_eq_true rfl) (fun Q2 hQ2 => r_X2_startAnew hX (d := d) e9 hQ2) ?_
  refine go_adv hX c_26 1 (F2 := (20, [.ref x0], [(4, .int v1), (0, .ref x0), (1, .int x1), (2, .int x2), (3, .int x3)], v8)) rfl ?_
  refine go_p hX c_26 rfl rfl rfl ?_
  obtain ⟨v10, e11, hF⟩ := mm_bind hF
  refine go_gI hX c_26 rfl e11 ?_
  refine go_adv hX c_26 2 (F2 := (26, [.int (v10 + (ki 1)), .ref x0], [(4, .int v1), (0, .ref x0), (1, .int x1), (2, .int x2), (3, .int x3)], v8)) rfl ?_
  obtain ⟨h12, e13, hF⟩ := mm_bind hF
  refine go_pV hX c_26 rfl e13 ?_
  refine go_adv hX c_26 1 (F2 := (31, [.int v1], [(4, .int v1), (0, .ref x0), (1, .int x1), (2, .int x2), (3, .int x3)], h12)) rfl ?_
  cases hF
  exact go_iret hX c_26 rfl rfl rfl hQ
theorem c_28 : mm_cd 28 = k_X3_removeStair := rfl
def F_X3_removeStair_L11 : Nat → Nat → Nat → Int32 → mm_S → Option mm_S
  | 0, _, _, _, _ => none
  | n + 1, x0, x2, x3, h =>
    (fx_gI h x0 3 3).bind fun v5 =>
    if v5 ≤ x3 then
      some h
    else
      (fx_gR h x0 3 2).bind fun v8 =>
      (fx_gR h x0 3 2).bind fun v10 =>
      (fx_aR h v10 x3).bind fun v12 =>
      (fx_sR h v8 (x3 - (ki 1)) v12).bind fun h14 =>
      F_X3_removeStair_L11 n x0 x2 (x3 + ki 1) h14
def F_X3_removeStair (h : mm_S) (x0 : Nat) (x1 : Int32) : Option (Int32 × mm_S) :=
  (fx_gR h x0 3 2).bind fun v1 =>
  (fx_aR h v1 x1).bind fun v3 =>
  (F_X3_removeStair_L11 1000 x0 v3 (x1 + (ki 1)) h).bind fun o16 =>
  (fx_gI o16 x0 3 3).bind fun v18 =>
  (fx_pV o16 x0 3 3 (.int (v18 - (ki 1)))).bind fun h20 =>
  (fx_gR h20 x0 3 2).bind fun v22 =>
  (fx_gI h20 x0 3 3).bind fun v24 =>
  (fx_sR h20 v22 v24 v3).bind fun h26 =>
  (fx_gI h26 x0 3 3).bind fun v28 =>
  some (v28, h26)
theorem r_X3_removeStair_L11 {X : mm_Cl} (hX : mm_mono X) {d c k : Nat} {Q : mm_Re → Prop} : ∀ (n : Nat) (x0 : Nat) (x2 : Nat) (x3 : Int32) (h : mm_S) (o : mm_S), F_X3_removeStair_L11 n x0 x2 x3 h = some o → (mm_Ex (mm_Run X d) 28 Q (39, [], [(0, .ref x0), (2, .ref x2)], o) c k) → mm_Ex (mm_Run X d) 28 Q (11, [], [(0, .ref x0), (2, .ref x2), (3, .int x3)], h) c k := by
  intro n
  induction n with
  | zero => intro x0 x2 x3 h o hF; cases hF
  | succ n ih =>
    intro x0 x2 x3 h o hF hE
    unfold F_X3_removeStair_L11 at hF
    refine go_adv hX c_28 2 (F2 := (13, [.ref x0, .int x3], [(0, .ref x0), (2, .ref x2), (3, .int x3)], h)) rfl ?_
    obtain ⟨v5, e6, hF⟩ := mm_bind hF
    refine go_gI hX c_28 rfl e6 ?_
    rcases mm_ite hF with ⟨hc7, hF⟩ | ⟨hc7, hF⟩
    · refine go_ct hX 39 c_28 rfl rfl hc7 ?_
      cases hF
      refine go_ls [(0, .ref x0), (2, .ref x2)] ⟨rfl, ⟨rfl, trivial⟩⟩ ?_
      exact hE
    · refine go_cf hX c_28 rfl (by decide) hc7 ?_
      refine go_adv hX c_28 1 (F2 := (20, [.ref x0], [(0, .ref x0), (2, .ref x2), (3, .int x3)], h)) rfl ?_
      obtain ⟨v8, e9, hF⟩ := mm_bind hF
      refine go_gR hX c_28 rfl e9 ?_
      refine go_adv hX c_28 4 (F2 := (27, [.ref x0, .int (x3 - (ki 1)), .ref v8], [(0, .ref x0), (2, .ref x2), (3, .int x3)], h)) rfl ?_
      obtain ⟨v10, e11, hF⟩ := mm_bind hF
      refine go_gR hX c_28 rfl e11 ?_
      refine go_adv hX c_28 1 (F2 := (31, [.int x3, .ref v10, .int (x3 - (ki 1)), .ref v8], [(0, .ref x0), (2, .ref x2), (3, .int x3)], h)) rfl ?_
      obtain ⟨v12, e13, hF⟩ := mm_bind hF
      refine go_aR hX c_28 rfl e13 ?_
      obtain ⟨h14, e15, hF⟩ := mm_bind hF
      refine go_sR hX c_28 rfl e15 ?_
      refine go_adv hX c_28 1 (F2 := (36, [], [(3, .int (x3 + ki 1)), (0, .ref x0), (2, .ref x2)], h14)) rfl ?_
      refine go_to hX 11 c_28 rfl rfl ?_
      refine go_ls [(0, .ref x0), (2, .ref x2), (3, .int (x3 + ki 1))] ⟨rfl, ⟨rfl, ⟨rfl, trivial⟩⟩⟩ ?_
      exact ih x0 x2 (x3 + ki 1) h14 _ hF hE
theorem r_X3_removeStair {X : mm_Cl} (hX : mm_mono X) {d c k : Nat} {Q : mm_Re → Prop} {h : mm_S} {x0 : Nat} {x1 : Int32} {o : (Int32 × mm_S)} (hF : F_X3_removeStair h x0 x1 = some o) (hQ : Q (.inl (some (.int o.1)), o.2)) : mm_Run X (d + 1) 28 c k [.ref x0, .int x1] h Q := by
  unfold F_X3_removeStair at hF
  refine mm_Run_in (by decide) (by decide) (Nat.le_of_ble_eq_true rfl) ?_
  show mm_Ex (mm_Run X d) 28 Q (0, [], [(0, .ref x0), (1, .int x1)], h) c k
  refine go_adv hX c_28 1 (F2 := (1, [.ref x0], [(0, .ref x0), (1, .int x1)], h)) rfl ?_
  obtain ⟨v1, e2, hF⟩ := mm_bind hF
  refine go_gR hX c_28 rfl e2 ?_
  refine go_adv hX c_28 1 (F2 := (5, [.int x1, .ref v1], [(0, .ref x0), (1, .int x1)], h)) rfl ?_
  obtain ⟨v3, e4, hF⟩ := mm_bind hF
  refine go_aR hX c_28 rfl e4 ?_
  refine go_adv hX c_28 5 (F2 := (11, [], [(3, .int (x1 + (ki 1))), (2, .ref v3), (0, .ref x0), (1, .int x1)], h)) rfl ?_
  refine go_ls [(0, .ref x0), (2, .ref v3), (3, .int (x1 + (ki 1)))] ⟨rfl, ⟨rfl, ⟨rfl, trivial⟩⟩⟩ ?_
  obtain ⟨o16, e17, hF⟩ := mm_bind hF
  refine r_X3_removeStair_L11 hX 1000 x0 v3 (x1 + (ki 1)) h o16 e17 ?_
  refine go_adv hX c_28 1 (F2 := (40, [.ref x0], [(0, .ref x0), (2, .ref v3)], o16)) rfl ?_
  refine go_p hX c_28 rfl rfl rfl ?_
  obtain ⟨v18, e19, hF⟩ := mm_bind hF
  refine go_gI hX c_28 rfl e19 ?_
  refine go_adv hX c_28 2 (F2 := (46, [.int (v18 - (ki 1)), .ref x0], [(0, .ref x0), (2, .ref v3)], o16)) rfl ?_
  obtain ⟨h20, e21, hF⟩ := mm_bind hF
  refine go_pV hX c_28 rfl e21 ?_
  refine go_adv hX c_28 1 (F2 := (50, [.ref x0], [(0, .ref x0), (2, .ref v3)], h20)) rfl ?_
  obtain ⟨v22, e23, hF⟩ := mm_bind hF
  refine go_gR hX c_28 rfl e23 ?_
  refine go_adv hX c_28 1 (F2 := (54, [.ref x0, .ref v22], [(0, .ref x0), (2, .ref v3)], h20)) rfl ?_
  obtain ⟨v24, e25, hF⟩ := mm_bind hF
  refine go_gI hX c_28 rfl e25 ?_
  refine go_adv hX c_28 1 (F2 := (58, [.ref v3, .int v24, .ref v22], [(0, .ref x0), (2, .ref v3)], h20)) rfl ?_
  obtain ⟨h26, e27, hF⟩ := mm_bind hF
  refine go_sR hX c_28 rfl e27 ?_
  refine go_adv hX c_28 1 (F2 := (60, [.ref x0], [(0, .ref x0), (2, .ref v3)], h26)) rfl ?_
  obtain ⟨v28, e29, hF⟩ := mm_bind hF
  refine go_gI hX c_28 rfl e29 ?_
  cases hF
  exact go_iret hX c_28 rfl rfl rfl hQ
theorem c_30 : mm_cd 30 = k_X3_halveSteps := rfl
def F_X3_halveSteps (h : mm_S) (x0 : Nat) (x1 : Int32) : Option (Int32 × mm_S) :=
  (fx_gR h x0 3 2).bind fun v1 =>
  (fx_aR h v1 x1).bind fun v3 =>
  (fx_gI h v3 2 2).bind fun v5 =>
  (fx_div (v5 + (ki 1)) (ki 2)).bind fun v7 =>
  (fx_pV h v3 2 2 (.int v7)).bind fun h9 =>
  (fx_gI h9 v3 2 4).bind fun v11 =>
  (fx_pV h9 v3 2 4 (.int (v11 + (ki 1)))).bind fun h13 =>
  (fx_gI h13 x0 3 9).bind fun v15 =>
  (fx_pV h13 x0 3 9 (.int (v15 + (ki 1)))).bind fun h17 =>
  (fx_gI h17 v3 2 2).bind fun v19 =>
  some (v19, h17)
theorem r_X3_halveSteps {X : mm_Cl} (hX : mm_mono X) {d c k : Nat} {Q : mm_Re → Prop} {h : mm_S} {x0 : Nat} {x1 : Int32} {o : (Int32 × mm_S)} (hF : F_X3_halveSteps h x0 x1 = some o) (hQ : Q (.inl (some (.int o.1)), o.2)) : mm_Run X (d + 1) 30 c k [.ref x0, .int x1] h Q := by
  unfold F_X3_halveSteps at hF
  refine mm_Run_in (by decide) (by decide) (Nat.le_of_ble_eq_true rfl) ?_
  show mm_Ex (mm_Run X d) 30 Q (0, [], [(0, .ref x0), (1, .int x1)], h) c k
  refine go_adv hX c_30 1 (F2 := (1, [.ref x0], [(0, .ref x0), (1, .int x1)], h)) rfl ?_
  obtain ⟨v1, e2, hF⟩ := mm_bind hF
  refine go_gR hX c_30 rfl e2 ?_
  refine go_adv hX c_30 1 (F2 := (5, [.int x1, .ref v1], [(0, .ref x0), (1, .int x1)], h)) rfl ?_
  obtain ⟨v3, e4, hF⟩ := mm_bind hF
  refine go_aR hX c_30 rfl e4 ?_
  refine go_adv hX c_30 3 (F2 := (9, [.ref v3, .ref v3], [(2, .ref v3), (0, .ref x0), (1, .int x1)], h)) rfl ?_
  obtain ⟨v5, e6, hF⟩ := mm_bind hF
  refine go_gI hX c_30 rfl e6 ?_
  refine go_adv hX c_30 3 (F2 := (15, [.int (ki 2), .int (v5 + (ki 1)), .ref v3], [(2, .ref v3), (0, .ref x0), (1, .int x1)], h)) rfl ?_
  obtain ⟨v7, e8, hF⟩ := mm_bind hF
  refine go_div hX c_30 rfl e8 ?_
  obtain ⟨h9, e10, hF⟩ := mm_bind hF
  refine go_pV hX c_30 rfl e10 ?_
  refine go_adv hX c_30 1 (F2 := (20, [.ref v3], [(2, .ref v3), (0, .ref x0), (1, .int x1)], h9)) rfl ?_
  refine go_p hX c_30 rfl rfl rfl ?_
  obtain ⟨v11, e12, hF⟩ := mm_bind hF
  refine go_gI hX c_30 rfl e12 ?_
  refine go_adv hX c_30 2 (F2 := (26, [.int (v11 + (ki 1)), .ref v3], [(2, .ref v3), (0, .ref x0), (1, .int x1)], h9)) rfl ?_
  obtain ⟨h13, e14, hF⟩ := mm_bind hF
  refine go_pV hX c_30 rfl e14 ?_
  refine go_adv hX c_30 1 (F2 := (30, [.ref x0], [(2, .ref v3), (0, .ref x0), (1, .int x1)], h13)) rfl ?_
  refine go_p hX c_30 rfl rfl rfl ?_
  obtain ⟨v15, e16, hF⟩ := mm_bind hF
  refine go_gI hX c_30 rfl e16 ?_
  refine go_adv hX c_30 2 (F2 := (36, [.int (v15 + (ki 1)), .ref x0], [(2, .ref v3), (0, .ref x0), (1, .int x1)], h13)) rfl ?_
  obtain ⟨h17, e18, hF⟩ := mm_bind hF
  refine go_pV hX c_30 rfl e18 ?_
  refine go_adv hX c_30 1 (F2 := (40, [.ref v3], [(2, .ref v3), (0, .ref x0), (1, .int x1)], h17)) rfl ?_
  obtain ⟨v19, e20, hF⟩ := mm_bind hF
  refine go_gI hX c_30 rfl e20 ?_
  cases hF
  exact go_iret hX c_30 rfl rfl rfl hQ
theorem c_18 : mm_cd 18 = k_X2_rent := rfl
def F_X2_rent (h : mm_S) (x0 : Nat) : Option Int32 :=
  (fx_gI h x0 2 2).bind fun v1 =>
  (fx_div v1 (kb 8)).bind fun v3 =>
  some ((ki 1) + v3)
theorem r_X2_rent {X : mm_Cl} (hX : mm_mono X) {d c k : Nat} {Q : mm_Re → Prop} {h : mm_S} {x0 : Nat} {o : Int32} (hF : F_X2_rent h x0 = some o) (hQ : Q (.inl (some (.int o)), h)) : mm_Run X (d + 1) 18 c k [.ref x0] h Q := by
  unfold F_X2_rent at hF
  refine mm_Run_in (by decide) (by decide) (Nat.le_of_ble_eq_true rfl) ?_
  show mm_Ex (mm_Run X d) 18 Q (0, [], [(0, .ref x0)], h) c k
  refine go_adv hX c_18 2 (F2 := (2, [.ref x0, .int (ki 1)], [(0, .ref x0)], h)) rfl ?_
  obtain ⟨v1, e2, hF⟩ := mm_bind hF
  refine go_gI hX c_18 rfl e2 ?_
  refine go_adv hX c_18 1 (F2 := (7, [.int (kb 8), .int v1, .int (ki 1)], [(0, .ref x0)], h)) rfl ?_
  obtain ⟨v3, e4, hF⟩ := mm_bind hF
  refine go_div hX c_18 rfl e4 ?_
  refine go_adv hX c_18 1 (F2 := (9, [.int ((ki 1) + v3)], [(0, .ref x0)], h)) rfl ?_
  cases hF
  exact go_iret hX c_18 rfl rfl rfl hQ
theorem c_33 : mm_cd 33 = k_X3_leaseTo := rfl
def F_X3_leaseTo (h : mm_S) (x0 : Nat) (x1 : Int32) (x2 : Int32) (x3 : Int32) : Option (Int32 × mm_S) :=
  (fx_gR h x0 3 2).bind fun v1 =>
  (fx_aR h v1 x2).bind fun v3 =>
  (fx_pV h v3 2 5 (.int x1)).bind fun h5 =>
  (fx_pV h5 v3 2 6 (.int x3)).bind fun h7 =>
  (fx_is h7 v3 2).bind fun _ =>
  (F_X2_rent h7 v3).bind fun v10 =>
  some (v10, h7)
theorem r_X3_leaseTo {X : mm_Cl} (hX : mm_mono X) {d c k : Nat} {Q : mm_Re → Prop} {h : mm_S} {x0 : Nat} {x1 : Int32} {x2 : Int32} {x3 : Int32} {o : (Int32 × mm_S)} (hF : F_X3_leaseTo h x0 x1 x2 x3 = some o) (hQ : Q (.inl (some (.int o.1)), o.2)) : mm_Run X (d + 2) 33 c k [.ref x0, .int x1, .int x2, .int x3] h Q := by
  unfold F_X3_leaseTo at hF
  refine mm_Run_in (by decide) (by decide) (Nat.le_of_ble_eq_true rfl) ?_
  show mm_Ex (mm_Run X (d + 1)) 33 Q (0, [], [(0, .ref x0), (1, .int x1), (2, .int x2), (3, .int x3)], h) c k
  refine go_adv hX c_33 1 (F2 := (1, [.ref x0], [(0, .ref x0), (1, .int x1), (2, .int x2), (3, .int x3)], h)) rfl ?_
  obtain ⟨v1, e2, hF⟩ := mm_bind hF
  refine go_gR hX c_33 rfl e2 ?_
  refine go_adv hX c_33 1 (F2 := (5, [.int x2, .ref v1], [(0, .ref x0), (1, .int x1), (2, .int x2), (3, .int x3)], h)) rfl ?_
  obtain ⟨v3, e4, hF⟩ := mm_bind hF
  refine go_aR hX c_33 rfl e4 ?_
  refine go_adv hX c_33 3 (F2 := (11, [.int x1, .ref v3], [(4, .ref v3), (0, .ref x0), (1, .int x1), (2, .int x2), (3, .int x3)], h)) rfl ?_
  obtain ⟨h5, e6, hF⟩ := mm_bind hF
  refine go_pV hX c_33 rfl e6 ?_
  refine go_adv hX c_33 2 (F2 := (17, [.int x3, .ref v3], [(4, .ref v3), (0, .ref x0), (1, .int x1), (2, .int x2), (3, .int x3)], h5)) rfl ?_
  obtain ⟨h7, e8, hF⟩ := mm_bind hF
  refine go_pV hX c_33 rfl e8 ?_
  refine go_adv hX c_33 1 (F2 := (22, [.ref v3], [(4, .ref v3), (0, .ref x0), (1, .int x1), (2, .int x2), (3, .int x3)], h7)) rfl ?_
  obtain ⟨_, e9, hF⟩ := mm_bind hF
  obtain ⟨v10, e11, hF⟩ := mm_bind hF
  refine go_cV hX (As := []) (rv := some (.int v10)) (h2 := h7) (ci := 2) c_33 rfl (Nat.le_of_ble_eq_true rfl) rfl rfl e9 (by decide) (Nat.le_of_ble_eq_true rfl) (fun Q2 hQ2 => r_X2_rent hX (d := d) e11 hQ2) ?_
  cases hF
  exact go_iret hX c_33 rfl rfl rfl hQ
